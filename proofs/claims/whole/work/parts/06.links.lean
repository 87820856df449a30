def rm_X6_error : Room := { frames := 1, cells := 0, slots := 0, locals := 64 }
def rm_X6_notWithin : Room := { frames := 1, cells := 0, slots := 0, locals := 64 }
def rm_X6_notKm : Room := { frames := 2, cells := 0, slots := 0, locals := 86 }
def rm_X5_addOrphan : Room := { frames := 1, cells := 0, slots := 0, locals := 64 }
def rm_X6_person : Room := { frames := 3, cells := 0, slots := 0, locals := 106 }
def rm_X6_notOne : Room := { frames := 1, cells := 0, slots := 0, locals := 64 }
def rm_X6_notTwo : Room := { frames := 2, cells := 0, slots := 0, locals := 85 }
def rm_X6_cell : Room := { frames := 1, cells := 0, slots := 0, locals := 64 }
def rm_X5_withForebears : Room := { frames := 1, cells := 0, slots := 0, locals := 64 }
def rm_X5_poured : Room := { frames := 2, cells := 0, slots := 0, locals := 85 }
def rm_X5_addChild : Room := { frames := 3, cells := 0, slots := 0, locals := 108 }
def rm_X6_child : Room := { frames := 4, cells := 0, slots := 0, locals := 133 }
def rm_X6_together : Room := { frames := 2, cells := 0, slots := 0, locals := 85 }
def rm_X5_kindOf : Room := { frames := 1, cells := 0, slots := 0, locals := 64 }
def rm_X5_numberOf : Room := { frames := 1, cells := 0, slots := 0, locals := 64 }
def rm_X6_held : Room := { frames := 1, cells := 0, slots := 0, locals := 64 }
def rm_X3_stands : Room := { frames := 1, cells := 0, slots := 0, locals := 64 }
def rm_X6_truth : Room := { frames := 1, cells := 0, slots := 0, locals := 64 }
def rm_X3_named : Room := { frames := 1, cells := 0, slots := 0, locals := 64 }
def rm_X3_joined : Room := { frames := 1, cells := 0, slots := 0, locals := 64 }
def rm_X3_value : Room := { frames := 2, cells := 0, slots := 0, locals := 87 }
def rm_X5_textOf : Room := { frames := 1, cells := 0, slots := 0, locals := 64 }
def rm_X5_given : Room := { frames := 3, cells := 0, slots := 0, locals := 113 }
def rm_X5_worthOf : Room := { frames := 4, cells := 0, slots := 0, locals := 139 }
def rm_X6_personIs : Room := { frames := 5, cells := 0, slots := 0, locals := 162 }
def rm_X6_become : Room := { frames := 3, cells := 0, slots := 0, locals := 106 }
def rm_X6_isUnder : Room := { frames := 1, cells := 0, slots := 0, locals := 64 }
def rm_X6_as : Room := { frames := 2, cells := 0, slots := 0, locals := 87 }
def rm_X6_notSort : Room := { frames := 2, cells := 0, slots := 0, locals := 86 }
def rm_X6_hold : Room := { frames := 3, cells := 0, slots := 0, locals := 106 }
def rm_X6_spoon : Room := { frames := 3, cells := 0, slots := 0, locals := 106 }
def rm_X5_gets : Room := { frames := 2, cells := 0, slots := 0, locals := 85 }
def rm_X5_gainOf : Room := { frames := 4, cells := 0, slots := 0, locals := 139 }
def rm_X6_gain : Room := { frames := 5, cells := 0, slots := 0, locals := 163 }
def rm_X6_pair : Room := { frames := 1, cells := 0, slots := 0, locals := 64 }
def rm_X5_canGo : Room := { frames := 2, cells := 0, slots := 0, locals := 85 }
def rm_X5_go : Room := { frames := 2, cells := 0, slots := 0, locals := 85 }
def rm_X6_lend : Room := { frames := 3, cells := 0, slots := 0, locals := 109 }
def rm_X6_repay : Room := { frames := 3, cells := 0, slots := 0, locals := 109 }
def rm_X6_owes : Room := { frames := 3, cells := 0, slots := 0, locals := 107 }
def rm_X6_feed : Room := { frames := 2, cells := 0, slots := 0, locals := 86 }
def rm_X6_notUse : Room := { frames := 1, cells := 0, slots := 0, locals := 64 }
def rm_X0_levelOf : Room := { frames := 1, cells := 0, slots := 0, locals := 64 }
def rm_X3_add : Room := { frames := 1, cells := 0, slots := 0, locals := 64 }
def rm_X0_isDigit : Room := { frames := 1, cells := 0, slots := 0, locals := 64 }
def rm_X0_readNumber : Room := { frames := 2, cells := 0, slots := 0, locals := 85 }
def rm_X0_readClosing : Room := { frames := 1, cells := 0, slots := 0, locals := 64 }
def rm_X0_nameOf : Room := { frames := 1, cells := 0, slots := 0, locals := 64 }
def rm_X0_readChain (d : Nat) : Room := { frames := d + 3, cells := 0, slots := 0, locals := 23 * d + 107 }
theorem rmk_X0_readChain_rec (d : Nat) {maxL : Nat} (h : maxL ≤ 4) : RMok (rm_X0_readChain (d + 1)) (rm_X0_readChain d) maxL 0 0 0 0 := ⟨rfl, rfl, ⟨by show d + 3 + 1 ≤ d + 1 + 3; omega, by show 8 + (maxL + 11) + (23 * d + 107) ≤ 23 * (d + 1) + 107; omega⟩, Nat.le_refl 0, Nat.le_refl 0⟩
def rm_X3_clear : Room := { frames := 1, cells := 0, slots := 0, locals := 64 }
def rm_X0_faultOf : Room := { frames := 68, cells := 0, slots := 0, locals := 1602 }
def rm_X3_copyFrom : Room := { frames := 1, cells := 0, slots := 0, locals := 64 }
def rm_X6_text : Room := { frames := 69, cells := 0, slots := 0, locals := 1624 }
def rm_X6_untell : Room := { frames := 2, cells := 0, slots := 0, locals := 85 }
def rm_X6_law : Room := { frames := 4, cells := 0, slots := 0, locals := 139 }
def rm_X5_grow : Room := { frames := 5, cells := 0, slots := 0, locals := 163 }
def rm_X5_goBy : Room := { frames := 6, cells := 0, slots := 0, locals := 189 }
def rm_X6_years : Room := { frames := 7, cells := 0, slots := 0, locals := 209 }
def rm_X5_draw : Room := { frames := 1, cells := 0, slots := 0, locals := 64 }
def rm_X5_steal : Room := { frames := 3, cells := 0, slots := 0, locals := 109 }
def rm_X6_loose : Room := { frames := 7, cells := 0, slots := 0, locals := 209 }
def rm_X6_year : Room := { frames := 2, cells := 0, slots := 0, locals := 86 }
def rm_X6_seed : Room := { frames := 1, cells := 0, slots := 0, locals := 64 }
def rm_X4_later : Room := { frames := 5, cells := 0, slots := 0, locals := 163 }
def rm_X6_then : Room := { frames := 6, cells := 0, slots := 0, locals := 190 }
def rm_X4_firstBelow : Room := { frames := 6, cells := 0, slots := 0, locals := 189 }
def rm_X6_clean : Room := { frames := 7, cells := 0, slots := 0, locals := 213 }
def rm_X4_couldBear : Room := { frames := 3, cells := 0, slots := 0, locals := 108 }
def rm_X4_pairsFor : Room := { frames := 4, cells := 0, slots := 0, locals := 133 }
def rm_X4_firstPairFor : Room := { frames := 4, cells := 0, slots := 0, locals := 133 }
def rm_X6_parents : Room := { frames := 5, cells := 0, slots := 0, locals := 158 }
def rm_X6_falseSorts : Room := { frames := 3, cells := 0, slots := 0, locals := 107 }
def rm_X6_kin : Room := { frames := 3, cells := 0, slots := 0, locals := 107 }
def rm_X5_balanceOf : Room := { frames := 2, cells := 0, slots := 0, locals := 85 }
def rm_X4_fewestPayments : Room := { frames := 3, cells := 0, slots := 0, locals := 108 }
def rm_X6_nets : Room := { frames := 4, cells := 0, slots := 0, locals := 133 }
def rm_X6_commonDivisor : Room := { frames := 1, cells := 0, slots := 0, locals := 64 }
def rm_X5_pouredTogether : Room := { frames := 3, cells := 0, slots := 0, locals := 108 }
def rm_X4_pairsBelow : Room := { frames := 4, cells := 0, slots := 0, locals := 132 }
def rm_X6_odds : Room := { frames := 5, cells := 0, slots := 0, locals := 157 }
def rm_X6_notSheet : Room := { frames := 2, cells := 0, slots := 0, locals := 86 }
def rm_X1_missing : Room := { frames := 1, cells := 0, slots := 0, locals := 64 }
def rm_X4_fitsSet : Room := { frames := 2, cells := 0, slots := 0, locals := 85 }
def rm_X4_setsThatFit : Room := { frames := 3, cells := 0, slots := 0, locals := 111 }
def rm_X4_leastThatFits : Room := { frames := 3, cells := 0, slots := 0, locals := 111 }
def rm_X6_fits : Room := { frames := 4, cells := 0, slots := 0, locals := 135 }
def rm_X2_begin : Room := { frames := 1, cells := 0, slots := 0, locals := 64 }
def rm_X2_divided : Room := { frames := 1, cells := 0, slots := 0, locals := 64 }
def rm_X2_say (d : Nat) : Room := { frames := d + 2, cells := 0, slots := 0, locals := 26 * d + 86 }
theorem rmk_X2_say_rec (d : Nat) {maxL : Nat} (h : maxL ≤ 7) : RMok (rm_X2_say (d + 1)) (rm_X2_say d) maxL 0 0 0 0 := ⟨rfl, rfl, ⟨by show d + 2 + 1 ≤ d + 1 + 2; omega, by show 8 + (maxL + 11) + (26 * d + 86) ≤ 26 * (d + 1) + 86; omega⟩, Nat.le_refl 0, Nat.le_refl 0⟩
def rm_X2_speak : Room := { frames := 67, cells := 0, slots := 0, locals := 1776 }
def rm_X6_voice : Room := { frames := 68, cells := 0, slots := 0, locals := 1800 }
def rm_X6_body : Room := { frames := 2, cells := 0, slots := 0, locals := 85 }
def rm_X1_begin : Room := { frames := 1, cells := 0, slots := 0, locals := 64 }
def rm_X1_lose : Room := { frames := 2, cells := 0, slots := 0, locals := 87 }
def rm_X6_sheet : Room := { frames := 3, cells := 0, slots := 0, locals := 107 }
def rm_X1_write : Room := { frames := 1, cells := 0, slots := 0, locals := 64 }
def rm_X6_put : Room := { frames := 3, cells := 0, slots := 0, locals := 106 }
def rm_X1_lacks : Room := { frames := 1, cells := 0, slots := 0, locals := 64 }
def rm_X6_move : Room := { frames := 3, cells := 0, slots := 0, locals := 106 }
def rm_X6_spoons : Room := { frames := 3, cells := 0, slots := 0, locals := 106 }
def rm_X6_judge : Room := { frames := 3, cells := 0, slots := 0, locals := 108 }
def rm_X5_copyFrom : Room := { frames := 2, cells := 0, slots := 0, locals := 85 }
def rm_X6_image : Room := { frames := 3, cells := 0, slots := 0, locals := 106 }
def rm_X6_restore : Room := { frames := 3, cells := 0, slots := 0, locals := 106 }
def rm_X6_tell : Room := { frames := 2, cells := 0, slots := 0, locals := 85 }
def rm_X6_check : Room := { frames := 5, cells := 0, slots := 0, locals := 162 }
def rm_X6_count : Room := { frames := 2, cells := 0, slots := 0, locals := 85 }
def rm_X6_told : Room := { frames := 2, cells := 0, slots := 0, locals := 85 }
def rm_X7_error : Room := { frames := 1, cells := 0, slots := 0, locals := 64 }
def rm_X7_in : Room := { frames := 1, cells := 0, slots := 0, locals := 64 }
def rm_X7_held : Room := { frames := 1, cells := 0, slots := 0, locals := 64 }
def rm_X7_copyAll : Room := { frames := 1, cells := 0, slots := 0, locals := 64 }
def rm_X7_layDown : Room := { frames := 1, cells := 0, slots := 0, locals := 64 }
def rm_X7_layBack : Room := { frames := 1, cells := 0, slots := 0, locals := 64 }
def rm_X7_isPerson : Room := { frames := 2, cells := 0, slots := 0, locals := 86 }
def rm_X7_isSort : Room := { frames := 2, cells := 0, slots := 0, locals := 86 }
def rm_X7_its : Room := { frames := 1, cells := 0, slots := 0, locals := 64 }
def rm_X7_lays1 : Room := { frames := 1, cells := 0, slots := 0, locals := 64 }
def rm_X7_has : Room := { frames := 1, cells := 0, slots := 0, locals := 64 }
def rm_X7_gets : Room := { frames := 2, cells := 0, slots := 0, locals := 86 }
def rm_X7_owed : Room := { frames := 1, cells := 0, slots := 0, locals := 64 }
def rm_X7_change1 : Room := { frames := 1, cells := 0, slots := 0, locals := 64 }
def rm_X7_heap : Room := { frames := 2, cells := 0, slots := 0, locals := 86 }
def rm_X7_feed : Room := { frames := 2, cells := 0, slots := 0, locals := 86 }
def rm_X7_look : Room := { frames := 1, cells := 0, slots := 0, locals := 64 }
def rm_X7_isName : Room := { frames := 1, cells := 0, slots := 0, locals := 64 }
def rm_X7_step1 : Room := { frames := 1, cells := 0, slots := 0, locals := 64 }
def rm_X7_opens : Room := { frames := 1, cells := 0, slots := 0, locals := 64 }
def rm_X7_whole (d : Nat) : Room := { frames := d + 2, cells := 0, slots := 0, locals := 23 * d + 86 }
theorem rmk_X7_whole_rec (d : Nat) {maxL : Nat} (h : maxL ≤ 4) : RMok (rm_X7_whole (d + 1)) (rm_X7_whole d) maxL 0 0 0 0 := ⟨rfl, rfl, ⟨by show d + 2 + 1 ≤ d + 1 + 2; omega, by show 8 + (maxL + 11) + (23 * d + 86) ≤ 23 * (d + 1) + 86; omega⟩, Nat.le_refl 0, Nat.le_refl 0⟩
def rm_X7_hasText : Room := { frames := 1, cells := 0, slots := 0, locals := 64 }
def rm_X7_text : Room := { frames := 67, cells := 0, slots := 0, locals := 1578 }
def rm_X7_untell : Room := { frames := 2, cells := 0, slots := 0, locals := 86 }
def rm_X7_joined : Room := { frames := 1, cells := 0, slots := 0, locals := 64 }
def rm_X7_worked : Room := { frames := 2, cells := 0, slots := 0, locals := 86 }
def rm_X7_getsAs (d : Nat) : Room := { frames := d + 2, cells := 0, slots := 0, locals := 24 * d + 86 }
theorem rmk_X7_getsAs_rec (d : Nat) {maxL : Nat} (h : maxL ≤ 5) : RMok (rm_X7_getsAs (d + 1)) (rm_X7_getsAs d) maxL 0 0 0 0 := ⟨rfl, rfl, ⟨by show d + 2 + 1 ≤ d + 1 + 2; omega, by show 8 + (maxL + 11) + (24 * d + 86) ≤ 24 * (d + 1) + 86; omega⟩, Nat.le_refl 0, Nat.le_refl 0⟩
def rm_X7_gainTold : Room := { frames := 3, cells := 0, slots := 0, locals := 112 }
def rm_X7_worthTold : Room := { frames := 3, cells := 0, slots := 0, locals := 112 }
def rm_X7_gainOf : Room := { frames := 67, cells := 0, slots := 0, locals := 1646 }
def rm_X7_worthOf : Room := { frames := 4, cells := 0, slots := 0, locals := 135 }
def rm_X7_fromOf : Room := { frames := 2, cells := 0, slots := 0, locals := 86 }
def rm_X7_aYear : Room := { frames := 68, cells := 0, slots := 0, locals := 1668 }
def rm_X7_draw : Room := { frames := 1, cells := 0, slots := 0, locals := 64 }
def rm_X7_isKind : Room := { frames := 2, cells := 0, slots := 0, locals := 86 }
def rm_X7_born : Room := { frames := 2, cells := 0, slots := 0, locals := 87 }
def rm_X7_person : Room := { frames := 3, cells := 0, slots := 0, locals := 112 }
def rm_X7_areTwo : Room := { frames := 3, cells := 0, slots := 0, locals := 107 }
def rm_X7_child : Room := { frames := 4, cells := 0, slots := 0, locals := 129 }
def rm_X7_personIs : Room := { frames := 5, cells := 0, slots := 0, locals := 158 }
def rm_X7_become : Room := { frames := 3, cells := 0, slots := 0, locals := 107 }
def rm_X7_above : Room := { frames := 1, cells := 0, slots := 0, locals := 64 }
def rm_X7_as : Room := { frames := 3, cells := 0, slots := 0, locals := 107 }
def rm_X7_hold : Room := { frames := 3, cells := 0, slots := 0, locals := 107 }
def rm_X7_spoon : Room := { frames := 3, cells := 0, slots := 0, locals := 107 }
def rm_X7_gain : Room := { frames := 68, cells := 0, slots := 0, locals := 1668 }
def rm_X7_areGiven : Room := { frames := 4, cells := 0, slots := 0, locals := 129 }
def rm_X7_canGo : Room := { frames := 2, cells := 0, slots := 0, locals := 86 }
def rm_X7_go : Room := { frames := 3, cells := 0, slots := 0, locals := 109 }
def rm_X7_lend : Room := { frames := 5, cells := 0, slots := 0, locals := 153 }
def rm_X7_repay : Room := { frames := 5, cells := 0, slots := 0, locals := 153 }
def rm_X7_owes : Room := { frames := 4, cells := 0, slots := 0, locals := 129 }
def rm_X7_law : Room := { frames := 4, cells := 0, slots := 0, locals := 135 }
def rm_X7_whyNot : Room := { frames := 2, cells := 0, slots := 0, locals := 86 }
def rm_X7_years : Room := { frames := 69, cells := 0, slots := 0, locals := 1690 }
def rm_X7_steals : Room := { frames := 4, cells := 0, slots := 0, locals := 133 }
def rm_X7_loose : Room := { frames := 69, cells := 0, slots := 0, locals := 1690 }
def rm_X7_year : Room := { frames := 2, cells := 0, slots := 0, locals := 87 }
def rm_X7_seed : Room := { frames := 2, cells := 0, slots := 0, locals := 87 }
def rm_X7_then : Room := { frames := 69, cells := 0, slots := 0, locals := 1690 }
def rm_X7_whoIsClean : Room := { frames := 3, cells := 0, slots := 0, locals := 109 }
def rm_X7_clean : Room := { frames := 69, cells := 0, slots := 0, locals := 1690 }
def rm_X7_arePoured : Room := { frames := 2, cells := 0, slots := 0, locals := 86 }
def rm_X7_parents : Room := { frames := 3, cells := 0, slots := 0, locals := 111 }
def rm_X7_falseSorts : Room := { frames := 3, cells := 0, slots := 0, locals := 107 }
def rm_X7_kin : Room := { frames := 4, cells := 0, slots := 0, locals := 129 }
def rm_X7_balance : Room := { frames := 2, cells := 0, slots := 0, locals := 86 }
def rm_X7_fewestPayments : Room := { frames := 3, cells := 0, slots := 0, locals := 109 }
def rm_X7_nets : Room := { frames := 4, cells := 0, slots := 0, locals := 136 }
def rm_X7_divisor : Room := { frames := 1, cells := 0, slots := 0, locals := 64 }
def rm_X7_pouredHeap : Room := { frames := 2, cells := 0, slots := 0, locals := 86 }
def rm_X7_odds : Room := { frames := 3, cells := 0, slots := 0, locals := 110 }
def rm_X7_haveSo : Room := { frames := 2, cells := 0, slots := 0, locals := 86 }
def rm_X7_isSheet : Room := { frames := 2, cells := 0, slots := 0, locals := 86 }
def rm_X7_lacks : Room := { frames := 3, cells := 0, slots := 0, locals := 106 }
def rm_X7_fits : Room := { frames := 4, cells := 0, slots := 0, locals := 127 }
def rm_X7_starts : Room := { frames := 1, cells := 0, slots := 0, locals := 64 }
def rm_X7_kindNow : Room := { frames := 2, cells := 0, slots := 0, locals := 86 }
def rm_X7_mNow : Room := { frames := 2, cells := 0, slots := 0, locals := 86 }
def rm_X7_washesAs (d : Nat) : Room := { frames := d + 2, cells := 0, slots := 0, locals := 22 * d + 85 }
theorem rmk_X7_washesAs_rec (d : Nat) {maxL : Nat} (h : maxL ≤ 3) : RMok (rm_X7_washesAs (d + 1)) (rm_X7_washesAs d) maxL 0 0 0 0 := ⟨rfl, rfl, ⟨by show d + 2 + 1 ≤ d + 1 + 2; omega, by show 8 + (maxL + 11) + (22 * d + 85) ≤ 22 * (d + 1) + 85; omega⟩, Nat.le_refl 0, Nat.le_refl 0⟩
def rm_X7_wringsAs (d : Nat) : Room := { frames := d + 67, cells := 0, slots := 0, locals := 22 * d + 1515 }
theorem rmk_X7_wringsAs_rec (d : Nat) {maxL : Nat} (h : maxL ≤ 3) : RMok (rm_X7_wringsAs (d + 1)) (rm_X7_wringsAs d) maxL 0 0 0 0 := ⟨rfl, rfl, ⟨by show d + 67 + 1 ≤ d + 1 + 67; omega, by show 8 + (maxL + 11) + (22 * d + 1515) ≤ 22 * (d + 1) + 1515; omega⟩, Nat.le_refl 0, Nat.le_refl 0⟩
def rm_X7_airsAs (d : Nat) : Room := { frames := d + 132, cells := 0, slots := 0, locals := 22 * d + 2945 }
theorem rmk_X7_airsAs_rec (d : Nat) {maxL : Nat} (h : maxL ≤ 3) : RMok (rm_X7_airsAs (d + 1)) (rm_X7_airsAs d) maxL 0 0 0 0 := ⟨rfl, rfl, ⟨by show d + 132 + 1 ≤ d + 1 + 132; omega, by show 8 + (maxL + 11) + (22 * d + 2945) ≤ 22 * (d + 1) + 2945; omega⟩, Nat.le_refl 0, Nat.le_refl 0⟩
def rm_X7_partsAs (d : Nat) : Room := { frames := d + 132, cells := 0, slots := 0, locals := 24 * d + 2945 }
theorem rmk_X7_partsAs_rec (d : Nat) {maxL : Nat} (h : maxL ≤ 5) : RMok (rm_X7_partsAs (d + 1)) (rm_X7_partsAs d) maxL 0 0 0 0 := ⟨rfl, rfl, ⟨by show d + 132 + 1 ≤ d + 1 + 132; omega, by show 8 + (maxL + 11) + (24 * d + 2945) ≤ 24 * (d + 1) + 2945; omega⟩, Nat.le_refl 0, Nat.le_refl 0⟩
def rm_X7_voice : Room := { frames := 197, cells := 0, slots := 0, locals := 4505 }
def rm_X7_body : Room := { frames := 2, cells := 0, slots := 0, locals := 86 }
def rm_X7_sheet : Room := { frames := 3, cells := 0, slots := 0, locals := 106 }
def rm_X7_put : Room := { frames := 3, cells := 0, slots := 0, locals := 106 }
def rm_X7_move : Room := { frames := 3, cells := 0, slots := 0, locals := 106 }
def rm_X7_spoons : Room := { frames := 4, cells := 0, slots := 0, locals := 127 }
def rm_X7_judge : Room := { frames := 4, cells := 0, slots := 0, locals := 127 }
def rm_X7_image : Room := { frames := 2, cells := 0, slots := 0, locals := 86 }
def rm_X7_restore : Room := { frames := 2, cells := 0, slots := 0, locals := 86 }
def rm_X7_tell : Room := { frames := 2, cells := 0, slots := 0, locals := 85 }
def rm_X7_check : Room := { frames := 5, cells := 0, slots := 0, locals := 158 }
def rm_X7_count : Room := { frames := 2, cells := 0, slots := 0, locals := 85 }
def rm_X7_told : Room := { frames := 2, cells := 0, slots := 0, locals := 86 }
theorem rmk_X0_readChain_X0_levelOf (d : Nat) : RMok (rm_X0_readChain (d + 1)) rm_X0_levelOf 1 0 0 0 0 := ⟨rfl, rfl, ⟨Nat.le_trans (Nat.le_of_ble_eq_true rfl : rm_X0_levelOf.frames + 1 ≤ 3) (Nat.le_add_left _ _), Nat.le_trans (Nat.le_of_ble_eq_true rfl : 8 + (1 + 11) + rm_X0_levelOf.locals ≤ 107) (Nat.le_add_left _ _)⟩, Nat.le_refl 0, Nat.le_refl 0⟩
theorem rmk_X0_readChain_X3_add (d : Nat) : RMok (rm_X0_readChain (d + 1)) rm_X3_add 2 0 0 0 0 := ⟨rfl, rfl, ⟨Nat.le_trans (Nat.le_of_ble_eq_true rfl : rm_X3_add.frames + 1 ≤ 3) (Nat.le_add_left _ _), Nat.le_trans (Nat.le_of_ble_eq_true rfl : 8 + (2 + 11) + rm_X3_add.locals ≤ 107) (Nat.le_add_left _ _)⟩, Nat.le_refl 0, Nat.le_refl 0⟩
theorem rmk_X0_readUnit_X0_isDigit (d : Nat) : RMok (rm_X0_readChain (d + 1)) rm_X0_isDigit 1 0 0 0 0 := ⟨rfl, rfl, ⟨Nat.le_trans (Nat.le_of_ble_eq_true rfl : rm_X0_isDigit.frames + 1 ≤ 3) (Nat.le_add_left _ _), Nat.le_trans (Nat.le_of_ble_eq_true rfl : 8 + (1 + 11) + rm_X0_isDigit.locals ≤ 107) (Nat.le_add_left _ _)⟩, Nat.le_refl 0, Nat.le_refl 0⟩
theorem rmk_X0_readUnit_X0_nameOf (d : Nat) : RMok (rm_X0_readChain (d + 1)) rm_X0_nameOf 3 0 0 0 0 := ⟨rfl, rfl, ⟨Nat.le_trans (Nat.le_of_ble_eq_true rfl : rm_X0_nameOf.frames + 1 ≤ 3) (Nat.le_add_left _ _), Nat.le_trans (Nat.le_of_ble_eq_true rfl : 8 + (3 + 11) + rm_X0_nameOf.locals ≤ 107) (Nat.le_add_left _ _)⟩, Nat.le_refl 0, Nat.le_refl 0⟩
theorem rmk_X0_readUnit_X0_readClosing (d : Nat) : RMok (rm_X0_readChain (d + 1)) rm_X0_readClosing 1 0 0 0 0 := ⟨rfl, rfl, ⟨Nat.le_trans (Nat.le_of_ble_eq_true rfl : rm_X0_readClosing.frames + 1 ≤ 3) (Nat.le_add_left _ _), Nat.le_trans (Nat.le_of_ble_eq_true rfl : 8 + (1 + 11) + rm_X0_readClosing.locals ≤ 107) (Nat.le_add_left _ _)⟩, Nat.le_refl 0, Nat.le_refl 0⟩
theorem rmk_X0_readUnit_X0_readNumber (d : Nat) : RMok (rm_X0_readChain (d + 1)) rm_X0_readNumber 3 0 0 0 0 := ⟨rfl, rfl, ⟨Nat.le_trans (Nat.le_of_ble_eq_true rfl : rm_X0_readNumber.frames + 1 ≤ 3) (Nat.le_add_left _ _), Nat.le_trans (Nat.le_of_ble_eq_true rfl : 8 + (3 + 11) + rm_X0_readNumber.locals ≤ 107) (Nat.le_add_left _ _)⟩, Nat.le_refl 0, Nat.le_refl 0⟩
theorem rmk_X0_readUnit_X3_add (d : Nat) : RMok (rm_X0_readChain (d + 1)) rm_X3_add 2 0 0 0 0 := ⟨rfl, rfl, ⟨Nat.le_trans (Nat.le_of_ble_eq_true rfl : rm_X3_add.frames + 1 ≤ 3) (Nat.le_add_left _ _), Nat.le_trans (Nat.le_of_ble_eq_true rfl : 8 + (2 + 11) + rm_X3_add.locals ≤ 107) (Nat.le_add_left _ _)⟩, Nat.le_refl 0, Nat.le_refl 0⟩
theorem rmk_X2_say_X2_begin (d : Nat) : RMok (rm_X2_say (d + 1)) rm_X2_begin 2 0 0 0 0 := ⟨rfl, rfl, ⟨Nat.le_trans (Nat.le_of_ble_eq_true rfl : rm_X2_begin.frames + 1 ≤ 2) (Nat.le_add_left _ _), Nat.le_trans (Nat.le_of_ble_eq_true rfl : 8 + (2 + 11) + rm_X2_begin.locals ≤ 86) (Nat.le_add_left _ _)⟩, Nat.le_refl 0, Nat.le_refl 0⟩
theorem rmk_X2_worked_X2_divided (d : Nat) : RMok (rm_X2_say (d + 1)) rm_X2_divided 3 0 0 0 0 := ⟨rfl, rfl, ⟨Nat.le_trans (Nat.le_of_ble_eq_true rfl : rm_X2_divided.frames + 1 ≤ 2) (Nat.le_add_left _ _), Nat.le_trans (Nat.le_of_ble_eq_true rfl : 8 + (3 + 11) + rm_X2_divided.locals ≤ 86) (Nat.le_add_left _ _)⟩, Nat.le_refl 0, Nat.le_refl 0⟩
theorem rmk_X7_airsAs_X7_above (d : Nat) : RMok (rm_X7_airsAs (d + 1)) rm_X7_above 1 0 0 0 0 := ⟨rfl, rfl, ⟨Nat.le_trans (Nat.le_of_ble_eq_true rfl : rm_X7_above.frames + 1 ≤ 132) (Nat.le_add_left _ _), Nat.le_trans (Nat.le_of_ble_eq_true rfl : 8 + (1 + 11) + rm_X7_above.locals ≤ 2945) (Nat.le_add_left _ _)⟩, Nat.le_refl 0, Nat.le_refl 0⟩
theorem rmk_X7_airsAs_X7_kindNow (d : Nat) : RMok (rm_X7_airsAs (d + 1)) rm_X7_kindNow 1 0 0 0 0 := ⟨rfl, rfl, ⟨Nat.le_trans (Nat.le_of_ble_eq_true rfl : rm_X7_kindNow.frames + 1 ≤ 132) (Nat.le_add_left _ _), Nat.le_trans (Nat.le_of_ble_eq_true rfl : 8 + (1 + 11) + rm_X7_kindNow.locals ≤ 2945) (Nat.le_add_left _ _)⟩, Nat.le_refl 0, Nat.le_refl 0⟩
theorem rmk_X7_airsAs_X7_mNow (d : Nat) : RMok (rm_X7_airsAs (d + 1)) rm_X7_mNow 1 0 0 0 0 := ⟨rfl, rfl, ⟨Nat.le_trans (Nat.le_of_ble_eq_true rfl : rm_X7_mNow.frames + 1 ≤ 132) (Nat.le_add_left _ _), Nat.le_trans (Nat.le_of_ble_eq_true rfl : 8 + (1 + 11) + rm_X7_mNow.locals ≤ 2945) (Nat.le_add_left _ _)⟩, Nat.le_refl 0, Nat.le_refl 0⟩
theorem rmk_X7_airsAs_X7_starts (d : Nat) : RMok (rm_X7_airsAs (d + 1)) rm_X7_starts 2 0 0 0 0 := ⟨rfl, rfl, ⟨Nat.le_trans (Nat.le_of_ble_eq_true rfl : rm_X7_starts.frames + 1 ≤ 132) (Nat.le_add_left _ _), Nat.le_trans (Nat.le_of_ble_eq_true rfl : 8 + (2 + 11) + rm_X7_starts.locals ≤ 2945) (Nat.le_add_left _ _)⟩, Nat.le_refl 0, Nat.le_refl 0⟩
theorem rmk_X7_airsAs_X7_wringsAs (d : Nat) : RMok (rm_X7_airsAs (d + 1)) (rm_X7_wringsAs 64) 3 0 0 0 0 := ⟨rfl, rfl, ⟨Nat.le_trans (Nat.le_of_ble_eq_true rfl : (rm_X7_wringsAs 64).frames + 1 ≤ 132) (Nat.le_add_left _ _), Nat.le_trans (Nat.le_of_ble_eq_true rfl : 8 + (3 + 11) + (rm_X7_wringsAs 64).locals ≤ 2945) (Nat.le_add_left _ _)⟩, Nat.le_refl 0, Nat.le_refl 0⟩
theorem rmk_X7_both_X7_look (d : Nat) : RMok (rm_X7_whole (d + 1)) rm_X7_look 1 0 0 0 0 := ⟨rfl, rfl, ⟨Nat.le_trans (Nat.le_of_ble_eq_true rfl : rm_X7_look.frames + 1 ≤ 2) (Nat.le_add_left _ _), Nat.le_trans (Nat.le_of_ble_eq_true rfl : 8 + (1 + 11) + rm_X7_look.locals ≤ 86) (Nat.le_add_left _ _)⟩, Nat.le_refl 0, Nat.le_refl 0⟩
theorem rmk_X7_both_X7_step1 (d : Nat) : RMok (rm_X7_whole (d + 1)) rm_X7_step1 3 0 0 0 0 := ⟨rfl, rfl, ⟨Nat.le_trans (Nat.le_of_ble_eq_true rfl : rm_X7_step1.frames + 1 ≤ 2) (Nat.le_add_left _ _), Nat.le_trans (Nat.le_of_ble_eq_true rfl : 8 + (3 + 11) + rm_X7_step1.locals ≤ 86) (Nat.le_add_left _ _)⟩, Nat.le_refl 0, Nat.le_refl 0⟩
theorem rmk_X7_compared_X7_look (d : Nat) : RMok (rm_X7_whole (d + 1)) rm_X7_look 1 0 0 0 0 := ⟨rfl, rfl, ⟨Nat.le_trans (Nat.le_of_ble_eq_true rfl : rm_X7_look.frames + 1 ≤ 2) (Nat.le_add_left _ _), Nat.le_trans (Nat.le_of_ble_eq_true rfl : 8 + (1 + 11) + rm_X7_look.locals ≤ 86) (Nat.le_add_left _ _)⟩, Nat.le_refl 0, Nat.le_refl 0⟩
theorem rmk_X7_compared_X7_step1 (d : Nat) : RMok (rm_X7_whole (d + 1)) rm_X7_step1 3 0 0 0 0 := ⟨rfl, rfl, ⟨Nat.le_trans (Nat.le_of_ble_eq_true rfl : rm_X7_step1.frames + 1 ≤ 2) (Nat.le_add_left _ _), Nat.le_trans (Nat.le_of_ble_eq_true rfl : 8 + (3 + 11) + rm_X7_step1.locals ≤ 86) (Nat.le_add_left _ _)⟩, Nat.le_refl 0, Nat.le_refl 0⟩
theorem rmk_X7_getsAs_X7_has (d : Nat) : RMok (rm_X7_getsAs (d + 1)) rm_X7_has 3 0 0 0 0 := ⟨rfl, rfl, ⟨Nat.le_trans (Nat.le_of_ble_eq_true rfl : rm_X7_has.frames + 1 ≤ 2) (Nat.le_add_left _ _), Nat.le_trans (Nat.le_of_ble_eq_true rfl : 8 + (3 + 11) + rm_X7_has.locals ≤ 86) (Nat.le_add_left _ _)⟩, Nat.le_refl 0, Nat.le_refl 0⟩
theorem rmk_X7_getsAs_X7_its (d : Nat) : RMok (rm_X7_getsAs (d + 1)) rm_X7_its 3 0 0 0 0 := ⟨rfl, rfl, ⟨Nat.le_trans (Nat.le_of_ble_eq_true rfl : rm_X7_its.frames + 1 ≤ 2) (Nat.le_add_left _ _), Nat.le_trans (Nat.le_of_ble_eq_true rfl : 8 + (3 + 11) + rm_X7_its.locals ≤ 86) (Nat.le_add_left _ _)⟩, Nat.le_refl 0, Nat.le_refl 0⟩
theorem rmk_X7_one_X7_in (d : Nat) : RMok (rm_X7_whole (d + 1)) rm_X7_in 3 0 0 0 0 := ⟨rfl, rfl, ⟨Nat.le_trans (Nat.le_of_ble_eq_true rfl : rm_X7_in.frames + 1 ≤ 2) (Nat.le_add_left _ _), Nat.le_trans (Nat.le_of_ble_eq_true rfl : 8 + (3 + 11) + rm_X7_in.locals ≤ 86) (Nat.le_add_left _ _)⟩, Nat.le_refl 0, Nat.le_refl 0⟩
theorem rmk_X7_one_X7_isName (d : Nat) : RMok (rm_X7_whole (d + 1)) rm_X7_isName 2 0 0 0 0 := ⟨rfl, rfl, ⟨Nat.le_trans (Nat.le_of_ble_eq_true rfl : rm_X7_isName.frames + 1 ≤ 2) (Nat.le_add_left _ _), Nat.le_trans (Nat.le_of_ble_eq_true rfl : 8 + (2 + 11) + rm_X7_isName.locals ≤ 86) (Nat.le_add_left _ _)⟩, Nat.le_refl 0, Nat.le_refl 0⟩
theorem rmk_X7_one_X7_look (d : Nat) : RMok (rm_X7_whole (d + 1)) rm_X7_look 1 0 0 0 0 := ⟨rfl, rfl, ⟨Nat.le_trans (Nat.le_of_ble_eq_true rfl : rm_X7_look.frames + 1 ≤ 2) (Nat.le_add_left _ _), Nat.le_trans (Nat.le_of_ble_eq_true rfl : 8 + (1 + 11) + rm_X7_look.locals ≤ 86) (Nat.le_add_left _ _)⟩, Nat.le_refl 0, Nat.le_refl 0⟩
theorem rmk_X7_one_X7_opens (d : Nat) : RMok (rm_X7_whole (d + 1)) rm_X7_opens 1 0 0 0 0 := ⟨rfl, rfl, ⟨Nat.le_trans (Nat.le_of_ble_eq_true rfl : rm_X7_opens.frames + 1 ≤ 2) (Nat.le_add_left _ _), Nat.le_trans (Nat.le_of_ble_eq_true rfl : 8 + (1 + 11) + rm_X7_opens.locals ≤ 86) (Nat.le_add_left _ _)⟩, Nat.le_refl 0, Nat.le_refl 0⟩
theorem rmk_X7_one_X7_step1 (d : Nat) : RMok (rm_X7_whole (d + 1)) rm_X7_step1 3 0 0 0 0 := ⟨rfl, rfl, ⟨Nat.le_trans (Nat.le_of_ble_eq_true rfl : rm_X7_step1.frames + 1 ≤ 2) (Nat.le_add_left _ _), Nat.le_trans (Nat.le_of_ble_eq_true rfl : 8 + (3 + 11) + rm_X7_step1.locals ≤ 86) (Nat.le_add_left _ _)⟩, Nat.le_refl 0, Nat.le_refl 0⟩
theorem rmk_X7_partsAs_X7_above (d : Nat) : RMok (rm_X7_partsAs (d + 1)) rm_X7_above 1 0 0 0 0 := ⟨rfl, rfl, ⟨Nat.le_trans (Nat.le_of_ble_eq_true rfl : rm_X7_above.frames + 1 ≤ 132) (Nat.le_add_left _ _), Nat.le_trans (Nat.le_of_ble_eq_true rfl : 8 + (1 + 11) + rm_X7_above.locals ≤ 2945) (Nat.le_add_left _ _)⟩, Nat.le_refl 0, Nat.le_refl 0⟩
theorem rmk_X7_partsAs_X7_kindNow (d : Nat) : RMok (rm_X7_partsAs (d + 1)) rm_X7_kindNow 1 0 0 0 0 := ⟨rfl, rfl, ⟨Nat.le_trans (Nat.le_of_ble_eq_true rfl : rm_X7_kindNow.frames + 1 ≤ 132) (Nat.le_add_left _ _), Nat.le_trans (Nat.le_of_ble_eq_true rfl : 8 + (1 + 11) + rm_X7_kindNow.locals ≤ 2945) (Nat.le_add_left _ _)⟩, Nat.le_refl 0, Nat.le_refl 0⟩
theorem rmk_X7_partsAs_X7_mNow (d : Nat) : RMok (rm_X7_partsAs (d + 1)) rm_X7_mNow 1 0 0 0 0 := ⟨rfl, rfl, ⟨Nat.le_trans (Nat.le_of_ble_eq_true rfl : rm_X7_mNow.frames + 1 ≤ 132) (Nat.le_add_left _ _), Nat.le_trans (Nat.le_of_ble_eq_true rfl : 8 + (1 + 11) + rm_X7_mNow.locals ≤ 2945) (Nat.le_add_left _ _)⟩, Nat.le_refl 0, Nat.le_refl 0⟩
theorem rmk_X7_partsAs_X7_starts (d : Nat) : RMok (rm_X7_partsAs (d + 1)) rm_X7_starts 2 0 0 0 0 := ⟨rfl, rfl, ⟨Nat.le_trans (Nat.le_of_ble_eq_true rfl : rm_X7_starts.frames + 1 ≤ 132) (Nat.le_add_left _ _), Nat.le_trans (Nat.le_of_ble_eq_true rfl : 8 + (2 + 11) + rm_X7_starts.locals ≤ 2945) (Nat.le_add_left _ _)⟩, Nat.le_refl 0, Nat.le_refl 0⟩
theorem rmk_X7_partsAs_X7_wringsAs (d : Nat) : RMok (rm_X7_partsAs (d + 1)) (rm_X7_wringsAs 64) 3 0 0 0 0 := ⟨rfl, rfl, ⟨Nat.le_trans (Nat.le_of_ble_eq_true rfl : (rm_X7_wringsAs 64).frames + 1 ≤ 132) (Nat.le_add_left _ _), Nat.le_trans (Nat.le_of_ble_eq_true rfl : 8 + (3 + 11) + (rm_X7_wringsAs 64).locals ≤ 2945) (Nat.le_add_left _ _)⟩, Nat.le_refl 0, Nat.le_refl 0⟩
theorem rmk_X7_product_X7_look (d : Nat) : RMok (rm_X7_whole (d + 1)) rm_X7_look 1 0 0 0 0 := ⟨rfl, rfl, ⟨Nat.le_trans (Nat.le_of_ble_eq_true rfl : rm_X7_look.frames + 1 ≤ 2) (Nat.le_add_left _ _), Nat.le_trans (Nat.le_of_ble_eq_true rfl : 8 + (1 + 11) + rm_X7_look.locals ≤ 86) (Nat.le_add_left _ _)⟩, Nat.le_refl 0, Nat.le_refl 0⟩
theorem rmk_X7_product_X7_step1 (d : Nat) : RMok (rm_X7_whole (d + 1)) rm_X7_step1 3 0 0 0 0 := ⟨rfl, rfl, ⟨Nat.le_trans (Nat.le_of_ble_eq_true rfl : rm_X7_step1.frames + 1 ≤ 2) (Nat.le_add_left _ _), Nat.le_trans (Nat.le_of_ble_eq_true rfl : 8 + (3 + 11) + rm_X7_step1.locals ≤ 86) (Nat.le_add_left _ _)⟩, Nat.le_refl 0, Nat.le_refl 0⟩
theorem rmk_X7_sum_X7_look (d : Nat) : RMok (rm_X7_whole (d + 1)) rm_X7_look 1 0 0 0 0 := ⟨rfl, rfl, ⟨Nat.le_trans (Nat.le_of_ble_eq_true rfl : rm_X7_look.frames + 1 ≤ 2) (Nat.le_add_left _ _), Nat.le_trans (Nat.le_of_ble_eq_true rfl : 8 + (1 + 11) + rm_X7_look.locals ≤ 86) (Nat.le_add_left _ _)⟩, Nat.le_refl 0, Nat.le_refl 0⟩
theorem rmk_X7_sum_X7_step1 (d : Nat) : RMok (rm_X7_whole (d + 1)) rm_X7_step1 3 0 0 0 0 := ⟨rfl, rfl, ⟨Nat.le_trans (Nat.le_of_ble_eq_true rfl : rm_X7_step1.frames + 1 ≤ 2) (Nat.le_add_left _ _), Nat.le_trans (Nat.le_of_ble_eq_true rfl : 8 + (3 + 11) + rm_X7_step1.locals ≤ 86) (Nat.le_add_left _ _)⟩, Nat.le_refl 0, Nat.le_refl 0⟩
theorem rmk_X7_washesAs_X7_above (d : Nat) : RMok (rm_X7_washesAs (d + 1)) rm_X7_above 1 0 0 0 0 := ⟨rfl, rfl, ⟨Nat.le_trans (Nat.le_of_ble_eq_true rfl : rm_X7_above.frames + 1 ≤ 2) (Nat.le_add_left _ _), Nat.le_trans (Nat.le_of_ble_eq_true rfl : 8 + (1 + 11) + rm_X7_above.locals ≤ 85) (Nat.le_add_left _ _)⟩, Nat.le_refl 0, Nat.le_refl 0⟩
theorem rmk_X7_washesAs_X7_starts (d : Nat) : RMok (rm_X7_washesAs (d + 1)) rm_X7_starts 2 0 0 0 0 := ⟨rfl, rfl, ⟨Nat.le_trans (Nat.le_of_ble_eq_true rfl : rm_X7_starts.frames + 1 ≤ 2) (Nat.le_add_left _ _), Nat.le_trans (Nat.le_of_ble_eq_true rfl : 8 + (2 + 11) + rm_X7_starts.locals ≤ 85) (Nat.le_add_left _ _)⟩, Nat.le_refl 0, Nat.le_refl 0⟩
theorem rmk_X7_whole_X7_look (d : Nat) : RMok (rm_X7_whole (d + 1)) rm_X7_look 1 0 0 0 0 := ⟨rfl, rfl, ⟨Nat.le_trans (Nat.le_of_ble_eq_true rfl : rm_X7_look.frames + 1 ≤ 2) (Nat.le_add_left _ _), Nat.le_trans (Nat.le_of_ble_eq_true rfl : 8 + (1 + 11) + rm_X7_look.locals ≤ 86) (Nat.le_add_left _ _)⟩, Nat.le_refl 0, Nat.le_refl 0⟩
theorem rmk_X7_whole_X7_step1 (d : Nat) : RMok (rm_X7_whole (d + 1)) rm_X7_step1 3 0 0 0 0 := ⟨rfl, rfl, ⟨Nat.le_trans (Nat.le_of_ble_eq_true rfl : rm_X7_step1.frames + 1 ≤ 2) (Nat.le_add_left _ _), Nat.le_trans (Nat.le_of_ble_eq_true rfl : 8 + (3 + 11) + rm_X7_step1.locals ≤ 86) (Nat.le_add_left _ _)⟩, Nat.le_refl 0, Nat.le_refl 0⟩
theorem rmk_X7_wringsAs_X7_above (d : Nat) : RMok (rm_X7_wringsAs (d + 1)) rm_X7_above 1 0 0 0 0 := ⟨rfl, rfl, ⟨Nat.le_trans (Nat.le_of_ble_eq_true rfl : rm_X7_above.frames + 1 ≤ 67) (Nat.le_add_left _ _), Nat.le_trans (Nat.le_of_ble_eq_true rfl : 8 + (1 + 11) + rm_X7_above.locals ≤ 1515) (Nat.le_add_left _ _)⟩, Nat.le_refl 0, Nat.le_refl 0⟩
theorem rmk_X7_wringsAs_X7_kindNow (d : Nat) : RMok (rm_X7_wringsAs (d + 1)) rm_X7_kindNow 1 0 0 0 0 := ⟨rfl, rfl, ⟨Nat.le_trans (Nat.le_of_ble_eq_true rfl : rm_X7_kindNow.frames + 1 ≤ 67) (Nat.le_add_left _ _), Nat.le_trans (Nat.le_of_ble_eq_true rfl : 8 + (1 + 11) + rm_X7_kindNow.locals ≤ 1515) (Nat.le_add_left _ _)⟩, Nat.le_refl 0, Nat.le_refl 0⟩
theorem rmk_X7_wringsAs_X7_mNow (d : Nat) : RMok (rm_X7_wringsAs (d + 1)) rm_X7_mNow 1 0 0 0 0 := ⟨rfl, rfl, ⟨Nat.le_trans (Nat.le_of_ble_eq_true rfl : rm_X7_mNow.frames + 1 ≤ 67) (Nat.le_add_left _ _), Nat.le_trans (Nat.le_of_ble_eq_true rfl : 8 + (1 + 11) + rm_X7_mNow.locals ≤ 1515) (Nat.le_add_left _ _)⟩, Nat.le_refl 0, Nat.le_refl 0⟩
theorem rmk_X7_wringsAs_X7_starts (d : Nat) : RMok (rm_X7_wringsAs (d + 1)) rm_X7_starts 2 0 0 0 0 := ⟨rfl, rfl, ⟨Nat.le_trans (Nat.le_of_ble_eq_true rfl : rm_X7_starts.frames + 1 ≤ 67) (Nat.le_add_left _ _), Nat.le_trans (Nat.le_of_ble_eq_true rfl : 8 + (2 + 11) + rm_X7_starts.locals ≤ 1515) (Nat.le_add_left _ _)⟩, Nat.le_refl 0, Nat.le_refl 0⟩
theorem rmk_X7_wringsAs_X7_washesAs (d : Nat) : RMok (rm_X7_wringsAs (d + 1)) (rm_X7_washesAs 64) 3 0 0 0 0 := ⟨rfl, rfl, ⟨Nat.le_trans (Nat.le_of_ble_eq_true rfl : (rm_X7_washesAs 64).frames + 1 ≤ 67) (Nat.le_add_left _ _), Nat.le_trans (Nat.le_of_ble_eq_true rfl : 8 + (3 + 11) + (rm_X7_washesAs 64).locals ≤ 1515) (Nat.le_add_left _ _)⟩, Nat.le_refl 0, Nat.le_refl 0⟩
theorem lk_X0_46 : LkV RX0 46 RX3 yX3_clear cX3_clear 1 none 0 := ⟨by decide +kernel, wd_449, wd_450, wd_451, wd_49, wd_452⟩
theorem lk_X0_49 : LkV RX0 49 RX0 yX0_readChain cX0_readChain 4 none 2 := ⟨by decide +kernel, wd_453, wd_454, wd_455, wd_26, wd_456⟩
theorem lk_X0_53 : LkV RX0 53 RX0 yX0_readUnit cX0_readUnit 4 none 1 := ⟨by decide +kernel, wd_457, wd_458, wd_459, wd_26, wd_467⟩
theorem lk_X0_57 : LkS RX0 57 yX0_levelOf cX0_levelOf 1 (some .int) 1 := ⟨by decide +kernel, wd_460, wd_461, wd_26, wd_462⟩
theorem lk_X0_61 : LkV RX0 61 RX3 yX3_add cX3_add 2 none 1 := ⟨by decide +kernel, wd_463, wd_464, wd_465, wd_49, wd_466⟩
theorem lk_X0_64 : LkV RX0 64 RX0 yX0_nameOf cX0_nameOf 3 (some .int) 1 := ⟨by decide +kernel, wd_468, wd_469, wd_470, wd_26, wd_471⟩
theorem lk_X0_67 : LkS RX0 67 yX0_isDigit cX0_isDigit 1 (some .boolean) 1 := ⟨by decide +kernel, wd_472, wd_473, wd_26, wd_474⟩
theorem lk_X0_71 : LkV RX0 71 RX0 yX0_readNumber cX0_readNumber 3 none 0 := ⟨by decide +kernel, wd_475, wd_476, wd_477, wd_26, wd_478⟩
theorem lk_X0_74 : LkV RX0 74 RX0 yX0_readClosing cX0_readClosing 1 none 0 := ⟨by decide +kernel, wd_479, wd_480, wd_481, wd_26, wd_482⟩
theorem lk_X1_19 : LkV RX1 19 RX1 yX1_begin cX1_begin 4 none 2 := ⟨by decide +kernel, wd_891, wd_892, wd_893, wd_23, wd_894⟩
theorem lk_X2_19 : LkV RX2 19 RX5 yX5_numberOf cX5_numberOf 2 (some .int) 1 := ⟨by decide +kernel, wd_820, wd_196, wd_197, wd_15, wd_198⟩
theorem lk_X2_28 : LkV RX2 28 RX5 yX5_kindOf cX5_kindOf 2 (some .int) 1 := ⟨by decide +kernel, wd_821, wd_192, wd_193, wd_15, wd_194⟩
theorem lk_X2_41 : LkV RX2 41 RX2 yX2_say cX2_say 7 (some .int) 4 := ⟨by decide +kernel, wd_822, wd_823, wd_824, wd_34, wd_825⟩
theorem lk_X2_51 : LkV RX2 51 RX2 yX2_begin cX2_begin 2 none 1 := ⟨by decide +kernel, wd_826, wd_827, wd_828, wd_34, wd_829⟩
theorem lk_X2_55 : LkV RX2 55 RX2 yX2_worked cX2_worked 5 (some .int) 4 := ⟨by decide +kernel, wd_830, wd_831, wd_832, wd_34, wd_833⟩
theorem lk_X2_58 : LkV RX2 58 RX2 yX2_divided cX2_divided 3 (some .int) 2 := ⟨by decide +kernel, wd_834, wd_835, wd_836, wd_34, wd_837⟩
theorem lk_X3_28 : LkS RX3 28 yX3_named cX3_named 4 (some .int) 4 := ⟨by decide +kernel, wd_224, wd_225, wd_49, wd_226⟩
theorem lk_X3_32 : LkN RX3 32 yX6_truth cX6_truth 1 (some .int) 1 := ⟨by decide +kernel, by decide +kernel, wd_227, wd_2, wd_228⟩
theorem lk_X3_36 : LkS RX3 36 yX3_joined cX3_joined 3 (some .int) 3 := ⟨by decide +kernel, wd_229, wd_230, wd_49, wd_231⟩
theorem lk_X4_26 : LkN RX4 26 yX6_cell cX6_cell 2 (some .int) 2 := ⟨by decide +kernel, by decide +kernel, wd_165, wd_2, wd_166⟩
theorem lk_X4_34 : LkV RX4 34 RX5 yX5_gainOf cX5_gainOf 5 (some .int) 4 := ⟨by decide +kernel, wd_638, wd_335, wd_336, wd_15, wd_337⟩
theorem lk_X4_38 : LkN RX4 38 yX6_held cX6_held 3 (some .int) 3 := ⟨by decide +kernel, by decide +kernel, wd_232, wd_2, wd_233⟩
theorem lk_X4_48 : LkV RX4 48 RX5 yX5_grow cX5_grow 7 none 2 := ⟨by decide +kernel, wd_661, wd_567, wd_568, wd_15, wd_569⟩
theorem lk_X4_55 : LkN RX4 55 yX6_together cX6_together 4 (some .int) 2 := ⟨by decide +kernel, by decide +kernel, wd_200, wd_2, wd_201⟩
theorem lk_X4_59 : LkV RX4 59 RX5 yX5_poured cX5_poured 4 (some .int) 3 := ⟨by decide +kernel, wd_682, wd_168, wd_169, wd_15, wd_170⟩
theorem lk_X4_62 : LkV RX4 62 RX4 yX4_couldBear cX4_couldBear 6 (some .boolean) 4 := ⟨by decide +kernel, wd_678, wd_679, wd_680, wd_30, wd_681⟩
theorem lk_X4_66 : LkN RX4 66 yX6_truth cX6_truth 1 (some .int) 1 := ⟨by decide +kernel, by decide +kernel, wd_227, wd_2, wd_228⟩
theorem lk_X4_70 : LkN RX4 70 yX6_pair cX6_pair 2 (some .int) 2 := ⟨by decide +kernel, by decide +kernel, wd_366, wd_2, wd_367⟩
theorem lk_X4_73 : LkV RX4 73 RX5 yX5_pouredTogether cX5_pouredTogether 5 (some .int) 2 := ⟨by decide +kernel, wd_746, wd_747, wd_748, wd_15, wd_749⟩
theorem lk_X4_76 : LkV RX4 76 RX5 yX5_balanceOf cX5_balanceOf 4 (some .int) 1 := ⟨by decide +kernel, wd_721, wd_722, wd_723, wd_15, wd_724⟩
theorem lk_X4_93 : LkV RX4 93 RX4 yX4_fitsSet cX4_fitsSet 7 (some .boolean) 3 := ⟨by decide +kernel, wd_781, wd_782, wd_783, wd_30, wd_784⟩
theorem lk_X5_65 : LkV RX5 65 RX3 yX3_copyFrom cX3_copyFrom 2 none 1 := ⟨by decide +kernel, wd_956, wd_485, wd_486, wd_49, wd_487⟩
theorem lk_X5_72 : LkV RX5 72 RX5 yX5_addOrphan cX5_addOrphan 3 (some .int) 1 := ⟨by decide +kernel, wd_160, wd_113, wd_114, wd_15, wd_115⟩
theorem lk_X5_76 : LkV RX5 76 RX5 yX5_withForebears cX5_withForebears 2 (some .int) 1 := ⟨by decide +kernel, wd_161, wd_162, wd_163, wd_15, wd_164⟩
theorem lk_X5_79 : LkN RX5 79 yX6_cell cX6_cell 2 (some .int) 2 := ⟨by decide +kernel, by decide +kernel, wd_165, wd_2, wd_166⟩
theorem lk_X5_83 : LkV RX5 83 RX5 yX5_poured cX5_poured 4 (some .int) 3 := ⟨by decide +kernel, wd_167, wd_168, wd_169, wd_15, wd_170⟩
theorem lk_X5_87 : LkN RX5 87 yX6_pair cX6_pair 2 (some .int) 2 := ⟨by decide +kernel, by decide +kernel, wd_366, wd_2, wd_367⟩
theorem lk_X5_90 : LkV RX5 90 RX5 yX5_numberOf cX5_numberOf 2 (some .int) 1 := ⟨by decide +kernel, wd_342, wd_196, wd_197, wd_15, wd_198⟩
theorem lk_X5_93 : LkV RX5 93 RX5 yX5_kindOf cX5_kindOf 2 (some .int) 1 := ⟨by decide +kernel, wd_343, wd_192, wd_193, wd_15, wd_194⟩
theorem lk_X5_96 : LkV RX5 96 RX5 yX5_gets cX5_gets 8 (some .int) 4 := ⟨by decide +kernel, wd_338, wd_339, wd_340, wd_15, wd_341⟩
theorem lk_X5_100 : LkV RX5 100 RX5 yX5_given cX5_given 7 (some .int) 4 := ⟨by decide +kernel, wd_207, wd_208, wd_209, wd_15, wd_210⟩
theorem lk_X5_103 : LkV RX5 103 RX5 yX5_gainOf cX5_gainOf 5 (some .int) 4 := ⟨by decide +kernel, wd_570, wd_335, wd_336, wd_15, wd_337⟩
theorem lk_X5_106 : LkN RX5 106 yX6_held cX6_held 3 (some .int) 3 := ⟨by decide +kernel, by decide +kernel, wd_232, wd_2, wd_233⟩
theorem lk_X5_109 : LkV RX5 109 RX5 yX5_grow cX5_grow 7 none 2 := ⟨by decide +kernel, wd_566, wd_567, wd_568, wd_15, wd_569⟩
theorem lk_X5_114 : LkV RX5 114 RX5 yX5_draw cX5_draw 1 (some .int) 0 := ⟨by decide +kernel, wd_592, wd_593, wd_594, wd_15, wd_595⟩
theorem lk_X5_123 : LkV RX5 123 RX5 yX5_go cX5_go 5 none 4 := ⟨by decide +kernel, wd_597, wd_373, wd_374, wd_15, wd_375⟩
theorem lk_X5_127 : LkV RX5 127 RX5 yX5_textOf cX5_textOf 2 (some (.object "DirtPress$Text")) 1 := ⟨by decide +kernel, wd_211, wd_212, wd_213, wd_15, wd_214⟩
theorem lk_X5_131 : LkV RX5 131 RX3 yX3_stands cX3_stands 1 (some .boolean) 0 := ⟨by decide +kernel, wd_215, wd_216, wd_217, wd_49, wd_218⟩
theorem lk_X5_135 : LkV RX5 135 RX3 yX3_value cX3_value 7 (some .int) 3 := ⟨by decide +kernel, wd_220, wd_221, wd_222, wd_49, wd_223⟩
theorem lk_X6_51 : LkS RX6 51 yX6_notKm cX6_notKm 1 (some .boolean) 1 := ⟨by decide +kernel, wd_101, wd_102, wd_2, wd_103⟩
theorem lk_X6_55 : LkV RX6 55 RX6 yX6_error cX6_error 2 (some .int) 1 := ⟨by decide +kernel, wd_107, wd_108, wd_109, wd_2, wd_110⟩
theorem lk_X6_63 : LkV RX6 63 RX5 yX5_addOrphan cX5_addOrphan 3 (some .int) 1 := ⟨by decide +kernel, wd_112, wd_113, wd_114, wd_15, wd_115⟩
theorem lk_X6_66 : LkV RX6 66 RX6 yX6_notTwo cX6_notTwo 3 (some .boolean) 2 := ⟨by decide +kernel, wd_148, wd_149, wd_150, wd_2, wd_151⟩
theorem lk_X6_70 : LkV RX6 70 RX5 yX5_addChild cX5_addChild 6 (some .int) 3 := ⟨by decide +kernel, wd_156, wd_157, wd_158, wd_15, wd_159⟩
theorem lk_X6_74 : LkV RX6 74 RX6 yX6_notOne cX6_notOne 2 (some .boolean) 1 := ⟨by decide +kernel, wd_152, wd_153, wd_154, wd_2, wd_155⟩
theorem lk_X6_77 : LkV RX6 77 RX5 yX5_kindOf cX5_kindOf 2 (some .int) 1 := ⟨by decide +kernel, wd_191, wd_192, wd_193, wd_15, wd_194⟩
theorem lk_X6_80 : LkV RX6 80 RX5 yX5_numberOf cX5_numberOf 2 (some .int) 1 := ⟨by decide +kernel, wd_195, wd_196, wd_197, wd_15, wd_198⟩
theorem lk_X6_92 : LkS RX6 92 yX6_together cX6_together 4 (some .int) 2 := ⟨by decide +kernel, wd_199, wd_200, wd_2, wd_201⟩
theorem lk_X6_96 : LkV RX6 96 RX5 yX5_worthOf cX5_worthOf 4 (some .int) 1 := ⟨by decide +kernel, wd_203, wd_204, wd_205, wd_15, wd_206⟩
theorem lk_X6_105 : LkS RX6 105 yX6_isUnder cX6_isUnder 4 (some .boolean) 2 := ⟨by decide +kernel, wd_296, wd_297, wd_2, wd_298⟩
theorem lk_X6_108 : LkS RX6 108 yX6_notSort cX6_notSort 1 (some .boolean) 1 := ⟨by decide +kernel, wd_311, wd_312, wd_2, wd_313⟩
theorem lk_X6_111 : LkS RX6 111 yX6_cell cX6_cell 2 (some .int) 2 := ⟨by decide +kernel, wd_202, wd_165, wd_2, wd_166⟩
theorem lk_X6_115 : LkS RX6 115 yX6_notWithin cX6_notWithin 3 (some .boolean) 3 := ⟨by decide +kernel, wd_104, wd_105, wd_2, wd_106⟩
theorem lk_X6_122 : LkV RX6 122 RX5 yX5_gainOf cX5_gainOf 5 (some .int) 4 := ⟨by decide +kernel, wd_334, wd_335, wd_336, wd_15, wd_337⟩
theorem lk_X6_126 : LkS RX6 126 yX6_pair cX6_pair 2 (some .int) 2 := ⟨by decide +kernel, wd_365, wd_366, wd_2, wd_367⟩
theorem lk_X6_129 : LkV RX6 129 RX5 yX5_canGo cX5_canGo 5 (some .boolean) 4 := ⟨by decide +kernel, wd_368, wd_369, wd_370, wd_15, wd_371⟩
theorem lk_X6_136 : LkV RX6 136 RX5 yX5_go cX5_go 5 none 4 := ⟨by decide +kernel, wd_372, wd_373, wd_374, wd_15, wd_375⟩
theorem lk_X6_146 : LkS RX6 146 yX6_notUse cX6_notUse 1 (some .boolean) 1 := ⟨by decide +kernel, wd_432, wd_433, wd_2, wd_434⟩
theorem lk_X6_149 : LkV RX6 149 RX0 yX0_faultOf cX0_faultOf 3 (some .int) 2 := ⟨by decide +kernel, wd_435, wd_436, wd_437, wd_26, wd_438⟩
theorem lk_X6_153 : LkV RX6 153 RX5 yX5_textOf cX5_textOf 2 (some (.object "DirtPress$Text")) 1 := ⟨by decide +kernel, wd_483, wd_212, wd_213, wd_15, wd_214⟩
theorem lk_X6_161 : LkV RX6 161 RX3 yX3_copyFrom cX3_copyFrom 2 none 1 := ⟨by decide +kernel, wd_484, wd_485, wd_486, wd_49, wd_487⟩
theorem lk_X6_167 : LkV RX6 167 RX3 yX3_stands cX3_stands 1 (some .boolean) 0 := ⟨by decide +kernel, wd_541, wd_216, wd_217, wd_49, wd_218⟩
theorem lk_X6_171 : LkS RX6 171 yX6_truth cX6_truth 1 (some .int) 1 := ⟨by decide +kernel, wd_542, wd_227, wd_2, wd_228⟩
theorem lk_X6_175 : LkV RX6 175 RX3 yX3_clear cX3_clear 1 none 0 := ⟨by decide +kernel, wd_543, wd_450, wd_451, wd_49, wd_452⟩
theorem lk_X6_178 : LkV RX6 178 RX5 yX5_given cX5_given 7 (some .int) 4 := ⟨by decide +kernel, wd_552, wd_208, wd_209, wd_15, wd_210⟩
theorem lk_X6_181 : LkV RX6 181 RX5 yX5_goBy cX5_goBy 1 none 0 := ⟨by decide +kernel, wd_561, wd_562, wd_563, wd_15, wd_564⟩
theorem lk_X6_184 : LkV RX6 184 RX5 yX5_steal cX5_steal 6 (some .int) 0 := ⟨by decide +kernel, wd_587, wd_588, wd_589, wd_15, wd_590⟩
theorem lk_X6_191 : LkV RX6 191 RX4 yX4_later cX4_later 8 (some .int) 4 := ⟨by decide +kernel, wd_632, wd_633, wd_634, wd_30, wd_635⟩
theorem lk_X6_195 : LkV RX6 195 RX4 yX4_firstBelow cX4_firstBelow 5 (some .int) 2 := ⟨by decide +kernel, wd_655, wd_656, wd_657, wd_30, wd_658⟩
theorem lk_X6_198 : LkV RX6 198 RX4 yX4_pairsFor cX4_pairsFor 6 (some .int) 2 := ⟨by decide +kernel, wd_674, wd_675, wd_676, wd_30, wd_677⟩
theorem lk_X6_201 : LkV RX6 201 RX4 yX4_firstPairFor cX4_firstPairFor 5 (some .int) 2 := ⟨by decide +kernel, wd_683, wd_684, wd_685, wd_30, wd_686⟩
theorem lk_X6_204 : LkV RX6 204 RX5 yX5_withForebears cX5_withForebears 2 (some .int) 1 := ⟨by decide +kernel, wd_707, wd_162, wd_163, wd_15, wd_164⟩
theorem lk_X6_207 : LkV RX6 207 RX4 yX4_fewestPayments cX4_fewestPayments 6 (some .int) 1 := ⟨by decide +kernel, wd_716, wd_717, wd_718, wd_30, wd_719⟩
theorem lk_X6_211 : LkV RX6 211 RX5 yX5_balanceOf cX5_balanceOf 4 (some .int) 1 := ⟨by decide +kernel, wd_725, wd_722, wd_723, wd_15, wd_724⟩
theorem lk_X6_219 : LkV RX6 219 RX4 yX4_pairsBelow cX4_pairsBelow 6 (some .int) 2 := ⟨by decide +kernel, wd_742, wd_743, wd_744, wd_30, wd_745⟩
theorem lk_X6_222 : LkS RX6 222 yX6_commonDivisor cX6_commonDivisor 3 (some .int) 2 := ⟨by decide +kernel, wd_750, wd_751, wd_2, wd_752⟩
theorem lk_X6_225 : LkS RX6 225 yX6_notSheet cX6_notSheet 1 (some .boolean) 1 := ⟨by decide +kernel, wd_769, wd_770, wd_2, wd_771⟩
theorem lk_X6_228 : LkV RX6 228 RX1 yX1_missing cX1_missing 1 (some .boolean) 0 := ⟨by decide +kernel, wd_772, wd_773, wd_774, wd_23, wd_775⟩
theorem lk_X6_234 : LkV RX6 234 RX4 yX4_setsThatFit cX4_setsThatFit 5 (some .int) 2 := ⟨by decide +kernel, wd_777, wd_778, wd_779, wd_30, wd_780⟩
theorem lk_X6_238 : LkV RX6 238 RX4 yX4_leastThatFits cX4_leastThatFits 4 (some .int) 2 := ⟨by decide +kernel, wd_787, wd_788, wd_789, wd_30, wd_790⟩
theorem lk_X6_241 : LkV RX6 241 RX2 yX2_speak cX2_speak 5 (some .int) 4 := ⟨by decide +kernel, wd_811, wd_812, wd_813, wd_34, wd_814⟩
theorem lk_X6_254 : LkV RX6 254 RX1 yX1_lose cX1_lose 1 none 0 := ⟨by decide +kernel, wd_887, wd_888, wd_889, wd_23, wd_890⟩
theorem lk_X6_257 : LkV RX6 257 RX1 yX1_begin cX1_begin 4 none 2 := ⟨by decide +kernel, wd_896, wd_892, wd_893, wd_23, wd_894⟩
theorem lk_X6_261 : LkV RX6 261 RX1 yX1_write cX1_write 3 none 2 := ⟨by decide +kernel, wd_905, wd_906, wd_907, wd_23, wd_908⟩
theorem lk_X6_267 : LkV RX6 267 RX1 yX1_lacks cX1_lacks 3 (some .boolean) 2 := ⟨by decide +kernel, wd_920, wd_921, wd_922, wd_23, wd_923⟩
theorem lk_X6_282 : LkV RX6 282 RX5 yX5_copyFrom cX5_copyFrom 2 none 1 := ⟨by decide +kernel, wd_949, wd_950, wd_951, wd_15, wd_952⟩
theorem lk_X7_53 : LkS RX7 53 yX7_in cX7_in 3 (some .boolean) 3 := ⟨by decide +kernel, wd_124, wd_125, wd_5, wd_126⟩
theorem lk_X7_57 : LkV RX7 57 RX7 yX7_has cX7_has 3 (some .int) 2 := ⟨by decide +kernel, wd_140, wd_141, wd_142, wd_5, wd_143⟩
theorem lk_X7_61 : LkS RX7 61 yX7_held cX7_held 3 (some .int) 3 := ⟨by decide +kernel, wd_272, wd_273, wd_5, wd_274⟩
theorem lk_X7_65 : LkV RX7 65 RX7 yX7_error cX7_error 2 (some .int) 1 := ⟨by decide +kernel, wd_127, wd_128, wd_129, wd_5, wd_130⟩
theorem lk_X7_81 : LkV RX7 81 RX7 yX7_both cX7_both 1 (some .boolean) 0 := ⟨by decide +kernel, wd_501, wd_502, wd_503, wd_5, wd_512⟩
theorem lk_X7_85 : LkV RX7 85 RX7 yX7_look cX7_look 1 (some .int) 0 := ⟨by decide +kernel, wd_504, wd_505, wd_506, wd_5, wd_507⟩
theorem lk_X7_89 : LkV RX7 89 RX7 yX7_step1 cX7_step1 3 none 2 := ⟨by decide +kernel, wd_508, wd_509, wd_510, wd_5, wd_511⟩
theorem lk_X7_93 : LkV RX7 93 RX7 yX7_compared cX7_compared 2 (some .boolean) 0 := ⟨by decide +kernel, wd_513, wd_514, wd_515, wd_5, wd_516⟩
theorem lk_X7_96 : LkV RX7 96 RX7 yX7_sum cX7_sum 2 (some .boolean) 0 := ⟨by decide +kernel, wd_517, wd_518, wd_519, wd_5, wd_533⟩
theorem lk_X7_99 : LkV RX7 99 RX7 yX7_product cX7_product 2 (some .boolean) 0 := ⟨by decide +kernel, wd_534, wd_535, wd_536, wd_5, wd_532⟩
theorem lk_X7_102 : LkV RX7 102 RX7 yX7_one cX7_one 4 (some .boolean) 0 := ⟨by decide +kernel, wd_529, wd_530, wd_531, wd_5, wd_520⟩
theorem lk_X7_108 : LkV RX7 108 RX7 yX7_isName cX7_isName 2 (some .boolean) 1 := ⟨by decide +kernel, wd_521, wd_522, wd_523, wd_5, wd_524⟩
theorem lk_X7_112 : LkV RX7 112 RX7 yX7_opens cX7_opens 1 (some .boolean) 0 := ⟨by decide +kernel, wd_525, wd_526, wd_527, wd_5, wd_528⟩
theorem lk_X7_115 : LkV RX7 115 RX7 yX7_whole cX7_whole 1 (some .boolean) 0 := ⟨by decide +kernel, wd_497, wd_498, wd_499, wd_5, wd_500⟩
theorem lk_X7_118 : LkV RX7 118 RX7 yX7_hasText cX7_hasText 2 (some .boolean) 1 := ⟨by decide +kernel, wd_261, wd_262, wd_263, wd_5, wd_264⟩
theorem lk_X7_121 : LkS RX7 121 yX7_joined cX7_joined 3 (some .int) 3 := ⟨by decide +kernel, wd_269, wd_270, wd_5, wd_271⟩
theorem lk_X7_124 : LkV RX7 124 RX7 yX7_its cX7_its 3 (some .int) 2 := ⟨by decide +kernel, wd_245, wd_246, wd_247, wd_5, wd_248⟩
theorem lk_X7_127 : LkV RX7 127 RX7 yX7_getsAs cX7_getsAs 5 (some .int) 3 := ⟨by decide +kernel, wd_352, wd_353, wd_354, wd_5, wd_355⟩
theorem lk_X7_130 : LkV RX7 130 RX7 yX7_worked cX7_worked 7 (some .int) 1 := ⟨by decide +kernel, wd_265, wd_266, wd_267, wd_5, wd_268⟩
theorem lk_X7_133 : LkV RX7 133 RX7 yX7_gainTold cX7_gainTold 4 (some .int) 3 := ⟨by decide +kernel, wd_356, wd_357, wd_358, wd_5, wd_359⟩
theorem lk_X7_136 : LkV RX7 136 RX7 yX7_worthTold cX7_worthTold 4 (some .int) 3 := ⟨by decide +kernel, wd_257, wd_258, wd_259, wd_5, wd_260⟩
theorem lk_X7_139 : LkV RX7 139 RX7 yX7_gainOf cX7_gainOf 3 (some .int) 2 := ⟨by decide +kernel, wd_348, wd_349, wd_350, wd_5, wd_351⟩
theorem lk_X7_142 : LkV RX7 142 RX7 yX7_gets cX7_gets 4 none 3 := ⟨by decide +kernel, wd_396, wd_397, wd_398, wd_5, wd_399⟩
theorem lk_X7_147 : LkV RX7 147 RX7 yX7_lays1 cX7_lays1 4 none 3 := ⟨by decide +kernel, wd_136, wd_137, wd_138, wd_5, wd_139⟩
theorem lk_X7_150 : LkS RX7 150 yX7_isKind cX7_isKind 1 (some .boolean) 1 := ⟨by decide +kernel, wd_121, wd_122, wd_5, wd_123⟩
theorem lk_X7_153 : LkV RX7 153 RX7 yX7_born cX7_born 6 (some .int) 3 := ⟨by decide +kernel, wd_132, wd_133, wd_134, wd_5, wd_135⟩
theorem lk_X7_156 : LkV RX7 156 RX7 yX7_isPerson cX7_isPerson 2 (some .boolean) 1 := ⟨by decide +kernel, wd_179, wd_180, wd_181, wd_5, wd_182⟩
theorem lk_X7_159 : LkV RX7 159 RX7 yX7_areTwo cX7_areTwo 3 (some .boolean) 2 := ⟨by decide +kernel, wd_175, wd_176, wd_177, wd_5, wd_178⟩
theorem lk_X7_163 : LkV RX7 163 RX7 yX7_heap cX7_heap 4 (some .int) 1 := ⟨by decide +kernel, wd_249, wd_250, wd_251, wd_5, wd_252⟩
theorem lk_X7_166 : LkV RX7 166 RX7 yX7_worthOf cX7_worthOf 4 (some .int) 1 := ⟨by decide +kernel, wd_253, wd_254, wd_255, wd_5, wd_256⟩
theorem lk_X7_169 : LkV RX7 169 RX7 yX7_fromOf cX7_fromOf 6 (some .int) 1 := ⟨by decide +kernel, wd_275, wd_276, wd_277, wd_5, wd_278⟩
theorem lk_X7_172 : LkV RX7 172 RX7 yX7_change1 cX7_change1 4 (some .int) 2 := ⟨by decide +kernel, wd_288, wd_289, wd_290, wd_5, wd_291⟩
theorem lk_X7_175 : LkS RX7 175 yX7_above cX7_above 1 (some .int) 1 := ⟨by decide +kernel, wd_304, wd_305, wd_5, wd_306⟩
theorem lk_X7_178 : LkS RX7 178 yX7_isSort cX7_isSort 1 (some .boolean) 1 := ⟨by decide +kernel, wd_318, wd_319, wd_5, wd_320⟩
theorem lk_X7_181 : LkV RX7 181 RX7 yX7_areGiven cX7_areGiven 5 (some .boolean) 4 := ⟨by decide +kernel, wd_380, wd_381, wd_382, wd_5, wd_383⟩
theorem lk_X7_185 : LkV RX7 185 RX7 yX7_canGo cX7_canGo 5 (some .boolean) 4 := ⟨by decide +kernel, wd_384, wd_385, wd_386, wd_5, wd_387⟩
theorem lk_X7_188 : LkV RX7 188 RX7 yX7_owed cX7_owed 3 (some .int) 2 := ⟨by decide +kernel, wd_388, wd_389, wd_390, wd_5, wd_391⟩
theorem lk_X7_191 : LkV RX7 191 RX7 yX7_go cX7_go 5 none 4 := ⟨by decide +kernel, wd_392, wd_393, wd_394, wd_5, wd_395⟩
theorem lk_X7_195 : LkV RX7 195 RX7 yX7_whyNot cX7_whyNot 3 (some .int) 2 := ⟨by decide +kernel, wd_575, wd_576, wd_577, wd_5, wd_578⟩
theorem lk_X7_198 : LkV RX7 198 RX7 yX7_aYear cX7_aYear 3 none 0 := ⟨by decide +kernel, wd_579, wd_580, wd_581, wd_5, wd_582⟩
theorem lk_X7_201 : LkV RX7 201 RX7 yX7_draw cX7_draw 1 (some .int) 0 := ⟨by decide +kernel, wd_606, wd_607, wd_608, wd_5, wd_609⟩
theorem lk_X7_204 : LkV RX7 204 RX7 yX7_steals cX7_steals 6 (some .int) 0 := ⟨by decide +kernel, wd_602, wd_603, wd_604, wd_5, wd_605⟩
theorem lk_X7_207 : LkV RX7 207 RX7 yX7_layDown cX7_layDown 2 none 0 := ⟨by decide +kernel, wd_643, wd_644, wd_645, wd_5, wd_646⟩
theorem lk_X7_210 : LkV RX7 210 RX7 yX7_layBack cX7_layBack 2 none 0 := ⟨by decide +kernel, wd_647, wd_648, wd_649, wd_5, wd_650⟩
theorem lk_X7_213 : LkV RX7 213 RX7 yX7_whoIsClean cX7_whoIsClean 4 (some .int) 1 := ⟨by decide +kernel, wd_666, wd_667, wd_668, wd_5, wd_669⟩
theorem lk_X7_216 : LkV RX7 216 RX7 yX7_arePoured cX7_arePoured 6 (some .boolean) 3 := ⟨by decide +kernel, wd_691, wd_692, wd_693, wd_5, wd_694⟩
theorem lk_X7_219 : LkV RX7 219 RX7 yX7_balance cX7_balance 4 (some .int) 1 := ⟨by decide +kernel, wd_734, wd_735, wd_736, wd_5, wd_737⟩
theorem lk_X7_222 : LkV RX7 222 RX7 yX7_fewestPayments cX7_fewestPayments 8 (some .int) 0 := ⟨by decide +kernel, wd_730, wd_731, wd_732, wd_5, wd_733⟩
theorem lk_X7_225 : LkV RX7 225 RX7 yX7_pouredHeap cX7_pouredHeap 5 (some .int) 2 := ⟨by decide +kernel, wd_757, wd_758, wd_759, wd_5, wd_760⟩
theorem lk_X7_228 : LkS RX7 228 yX7_divisor cX7_divisor 5 (some .int) 2 := ⟨by decide +kernel, wd_761, wd_762, wd_5, wd_763⟩
theorem lk_X7_231 : LkV RX7 231 RX7 yX7_lacks cX7_lacks 2 (some .int) 1 := ⟨by decide +kernel, wd_795, wd_796, wd_797, wd_5, wd_798⟩
theorem lk_X7_234 : LkV RX7 234 RX7 yX7_haveSo cX7_haveSo 7 (some .boolean) 2 := ⟨by decide +kernel, wd_802, wd_803, wd_804, wd_5, wd_805⟩
theorem lk_X7_243 : LkV RX7 243 RX7 yX7_starts cX7_starts 2 none 1 := ⟨by decide +kernel, wd_853, wd_854, wd_855, wd_5, wd_856⟩
theorem lk_X7_247 : LkV RX7 247 RX7 yX7_washesAs cX7_washesAs 3 (some .int) 2 := ⟨by decide +kernel, wd_849, wd_850, wd_851, wd_5, wd_852⟩
theorem lk_X7_250 : LkV RX7 250 RX7 yX7_kindNow cX7_kindNow 1 (some .int) 0 := ⟨by decide +kernel, wd_845, wd_846, wd_847, wd_5, wd_848⟩
theorem lk_X7_253 : LkV RX7 253 RX7 yX7_wringsAs cX7_wringsAs 3 (some .int) 2 := ⟨by decide +kernel, wd_857, wd_858, wd_859, wd_5, wd_860⟩
theorem lk_X7_256 : LkV RX7 256 RX7 yX7_mNow cX7_mNow 1 (some .int) 0 := ⟨by decide +kernel, wd_861, wd_862, wd_863, wd_5, wd_864⟩
theorem lk_X7_259 : LkV RX7 259 RX7 yX7_airsAs cX7_airsAs 3 (some .int) 2 := ⟨by decide +kernel, wd_865, wd_866, wd_867, wd_5, wd_868⟩
theorem lk_X7_266 : LkV RX7 266 RX7 yX7_partsAs cX7_partsAs 5 (some .int) 2 := ⟨by decide +kernel, wd_869, wd_870, wd_871, wd_5, wd_872⟩
theorem lk_X7_269 : LkS RX7 269 yX7_isSheet cX7_isSheet 1 (some .boolean) 1 := ⟨by decide +kernel, wd_799, wd_800, wd_5, wd_801⟩
theorem lk_X7_272 : LkS RX7 272 yX7_copyAll cX7_copyAll 3 none 2 := ⟨by decide +kernel, wd_962, wd_963, wd_5, wd_964⟩
