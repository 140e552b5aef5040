/-! THE CELLS behind both constructors, by program (wip/whole/gen/gen16.py) -/
def SHA : List (Nat × Nat) := [(0, 6), (1, 2), (102, 1200), (2, 7), (102, 1200), (3, 2), (101, 10), (405, 40), (100, 120)]
def SHK : List (Nat × Nat) := [(4, 15), (3, 2), (101, 8), (3, 2), (101, 4), (404, 4), (3, 2), (101, 6), (3, 2), (101, 6), (3, 2), (101, 6), (3, 2), (101, 6)]
def SHKs : Nat → List (Nat × Nat)
  | 0 => []
  | n + 1 => SHKs n ++ SHK
def SHB : List (Nat × Nat) := [(5, 4), (3, 2), (101, 8), (6, 4), (100, 600), (100, 600), (7, 5), (8, 5), (102, 120), (101, 120), (101, 120), (103, 120), (9, 2), (102, 130), (8, 5), (102, 120), (101, 120), (101, 120), (103, 120)]
def SHM : List (Nat × Nat) := [(10, 60), (100, 1200), (100, 1200), (100, 600), (100, 600), (100, 10), (100, 10), (100, 10), (100, 80), (100, 80), (100, 40), (100, 40), (100, 40), (100, 40), (100, 40), (100, 40), (100, 40), (103, 40), (100, 40), (100, 320), (100, 320), (100, 40), (100, 160), (100, 160), (100, 160), (100, 960), (100, 960), (100, 120), (100, 120), (100, 140), (100, 121), (100, 121), (100, 121), (100, 121), (100, 121), (100, 121), (100, 121), (100, 121), (100, 121), (100, 121), (100, 121), (100, 121), (100, 130), (103, 130)]
def SH (L : Nat) : List (Nat × Nat) := SH0 L ++ SHA ++ SHKs 40 ++ SHB ++ SHM
theorem SHKs_len : ∀ n, (SHKs n).length = 14 * n
  | 0 => rfl
  | n + 1 => by rw [SHKs, List.length_append, SHKs_len n]; show 14 * n + 14 = _; omega
theorem SHKs_at : ∀ (n i k : Nat), i < n → k < 14 → (SHKs n)[14 * i + k]? = SHK[k]?
  | 0, i, k, h, _ => by omega
  | n + 1, i, k, h, hk => by
    rw [SHKs]
    by_cases hi : i < n
    · rw [List.getElem?_append_left (by rw [SHKs_len]; omega)]
      exact SHKs_at n i k hi hk
    · have : i = n := by omega
      subst this
      rw [List.getElem?_append_right (by rw [SHKs_len]; omega), SHKs_len]
      congr 1
      omega
theorem SH_A (L : Nat) {a : Nat} (h : a < 25) : (SH L)[a]? = (SH0 L ++ SHA)[a]? := by
  unfold SH
  rw [List.append_assoc, List.append_assoc, List.getElem?_append_left (by show a < 25; exact h)]
theorem SH_K (L : Nat) {i k : Nat} (hi : i < 40) (hk : k < 14) : (SH L)[25 + 14 * i + k]? = SHK[k]? := by
  unfold SH
  have e1 : (SH0 L ++ SHA).length = 25 := rfl
  rw [List.append_assoc, List.append_assoc, List.getElem?_append_right (by rw [e1]; omega), e1, List.getElem?_append_left (by rw [SHKs_len]; omega), show 25 + 14 * i + k - 25 = 14 * i + k by omega]
  exact SHKs_at 40 i k hi hk
theorem SH_B (L : Nat) {k : Nat} : (SH L)[585 + k]? = (SHB ++ SHM)[k]? := by
  unfold SH
  have e1 : (SH0 L ++ SHA ++ SHKs 40).length = 585 := by rw [List.length_append, SHKs_len]; rfl
  rw [List.append_assoc, List.getElem?_append_right (by rw [e1]; omega), e1, show 585 + k - 585 = k by omega]
theorem s16 (L : Nat) : (SH L)[16]? = some (0, 6) := SH_A L (by decide)
theorem s17 (L : Nat) : (SH L)[17]? = some (1, 2) := SH_A L (by decide)
theorem s18 (L : Nat) : (SH L)[18]? = some (102, 1200) := SH_A L (by decide)
theorem s19 (L : Nat) : (SH L)[19]? = some (2, 7) := SH_A L (by decide)
theorem s20 (L : Nat) : (SH L)[20]? = some (102, 1200) := SH_A L (by decide)
theorem s21 (L : Nat) : (SH L)[21]? = some (3, 2) := SH_A L (by decide)
theorem s22 (L : Nat) : (SH L)[22]? = some (101, 10) := SH_A L (by decide)
theorem s23 (L : Nat) : (SH L)[23]? = some (405, 40) := SH_A L (by decide)
theorem s24 (L : Nat) : (SH L)[24]? = some (100, 120) := SH_A L (by decide)
theorem s585 (L : Nat) : (SH L)[585]? = some (5, 4) := SH_B L (k := 0)
theorem s586 (L : Nat) : (SH L)[586]? = some (3, 2) := SH_B L (k := 1)
theorem s587 (L : Nat) : (SH L)[587]? = some (101, 8) := SH_B L (k := 2)
theorem s588 (L : Nat) : (SH L)[588]? = some (6, 4) := SH_B L (k := 3)
theorem s589 (L : Nat) : (SH L)[589]? = some (100, 600) := SH_B L (k := 4)
theorem s590 (L : Nat) : (SH L)[590]? = some (100, 600) := SH_B L (k := 5)
theorem s591 (L : Nat) : (SH L)[591]? = some (7, 5) := SH_B L (k := 6)
theorem s592 (L : Nat) : (SH L)[592]? = some (8, 5) := SH_B L (k := 7)
theorem s593 (L : Nat) : (SH L)[593]? = some (102, 120) := SH_B L (k := 8)
theorem s594 (L : Nat) : (SH L)[594]? = some (101, 120) := SH_B L (k := 9)
theorem s595 (L : Nat) : (SH L)[595]? = some (101, 120) := SH_B L (k := 10)
theorem s596 (L : Nat) : (SH L)[596]? = some (103, 120) := SH_B L (k := 11)
theorem s597 (L : Nat) : (SH L)[597]? = some (9, 2) := SH_B L (k := 12)
theorem s598 (L : Nat) : (SH L)[598]? = some (102, 130) := SH_B L (k := 13)
theorem s599 (L : Nat) : (SH L)[599]? = some (8, 5) := SH_B L (k := 14)
theorem s600 (L : Nat) : (SH L)[600]? = some (102, 120) := SH_B L (k := 15)
theorem s601 (L : Nat) : (SH L)[601]? = some (101, 120) := SH_B L (k := 16)
theorem s602 (L : Nat) : (SH L)[602]? = some (101, 120) := SH_B L (k := 17)
theorem s603 (L : Nat) : (SH L)[603]? = some (103, 120) := SH_B L (k := 18)
theorem s604 (L : Nat) : (SH L)[604]? = some (10, 60) := SH_B L (k := 19)
theorem s605 (L : Nat) : (SH L)[605]? = some (100, 1200) := SH_B L (k := 20)
theorem s606 (L : Nat) : (SH L)[606]? = some (100, 1200) := SH_B L (k := 21)
theorem s607 (L : Nat) : (SH L)[607]? = some (100, 600) := SH_B L (k := 22)
theorem s608 (L : Nat) : (SH L)[608]? = some (100, 600) := SH_B L (k := 23)
theorem s609 (L : Nat) : (SH L)[609]? = some (100, 10) := SH_B L (k := 24)
theorem s610 (L : Nat) : (SH L)[610]? = some (100, 10) := SH_B L (k := 25)
theorem s611 (L : Nat) : (SH L)[611]? = some (100, 10) := SH_B L (k := 26)
theorem s612 (L : Nat) : (SH L)[612]? = some (100, 80) := SH_B L (k := 27)
theorem s613 (L : Nat) : (SH L)[613]? = some (100, 80) := SH_B L (k := 28)
theorem s614 (L : Nat) : (SH L)[614]? = some (100, 40) := SH_B L (k := 29)
theorem s615 (L : Nat) : (SH L)[615]? = some (100, 40) := SH_B L (k := 30)
theorem s616 (L : Nat) : (SH L)[616]? = some (100, 40) := SH_B L (k := 31)
theorem s617 (L : Nat) : (SH L)[617]? = some (100, 40) := SH_B L (k := 32)
theorem s618 (L : Nat) : (SH L)[618]? = some (100, 40) := SH_B L (k := 33)
theorem s619 (L : Nat) : (SH L)[619]? = some (100, 40) := SH_B L (k := 34)
theorem s620 (L : Nat) : (SH L)[620]? = some (100, 40) := SH_B L (k := 35)
theorem s621 (L : Nat) : (SH L)[621]? = some (103, 40) := SH_B L (k := 36)
theorem s622 (L : Nat) : (SH L)[622]? = some (100, 40) := SH_B L (k := 37)
theorem s623 (L : Nat) : (SH L)[623]? = some (100, 320) := SH_B L (k := 38)
theorem s624 (L : Nat) : (SH L)[624]? = some (100, 320) := SH_B L (k := 39)
theorem s625 (L : Nat) : (SH L)[625]? = some (100, 40) := SH_B L (k := 40)
theorem s626 (L : Nat) : (SH L)[626]? = some (100, 160) := SH_B L (k := 41)
theorem s627 (L : Nat) : (SH L)[627]? = some (100, 160) := SH_B L (k := 42)
theorem s628 (L : Nat) : (SH L)[628]? = some (100, 160) := SH_B L (k := 43)
theorem s629 (L : Nat) : (SH L)[629]? = some (100, 960) := SH_B L (k := 44)
theorem s630 (L : Nat) : (SH L)[630]? = some (100, 960) := SH_B L (k := 45)
theorem s631 (L : Nat) : (SH L)[631]? = some (100, 120) := SH_B L (k := 46)
theorem s632 (L : Nat) : (SH L)[632]? = some (100, 120) := SH_B L (k := 47)
theorem s633 (L : Nat) : (SH L)[633]? = some (100, 140) := SH_B L (k := 48)
theorem s634 (L : Nat) : (SH L)[634]? = some (100, 121) := SH_B L (k := 49)
theorem s635 (L : Nat) : (SH L)[635]? = some (100, 121) := SH_B L (k := 50)
theorem s636 (L : Nat) : (SH L)[636]? = some (100, 121) := SH_B L (k := 51)
theorem s637 (L : Nat) : (SH L)[637]? = some (100, 121) := SH_B L (k := 52)
theorem s638 (L : Nat) : (SH L)[638]? = some (100, 121) := SH_B L (k := 53)
theorem s639 (L : Nat) : (SH L)[639]? = some (100, 121) := SH_B L (k := 54)
theorem s640 (L : Nat) : (SH L)[640]? = some (100, 121) := SH_B L (k := 55)
theorem s641 (L : Nat) : (SH L)[641]? = some (100, 121) := SH_B L (k := 56)
theorem s642 (L : Nat) : (SH L)[642]? = some (100, 121) := SH_B L (k := 57)
theorem s643 (L : Nat) : (SH L)[643]? = some (100, 121) := SH_B L (k := 58)
theorem s644 (L : Nat) : (SH L)[644]? = some (100, 121) := SH_B L (k := 59)
theorem s645 (L : Nat) : (SH L)[645]? = some (100, 121) := SH_B L (k := 60)
theorem s646 (L : Nat) : (SH L)[646]? = some (100, 130) := SH_B L (k := 61)
theorem s647 (L : Nat) : (SH L)[647]? = some (103, 130) := SH_B L (k := 62)
theorem s0 (L : Nat) : (SH L)[0]? = some (900, L) := SH_A L (by decide)
theorem s1 (L : Nat) : (SH L)[1]? = some (901, 0) := SH_A L (by decide)
theorem s2 (L : Nat) : (SH L)[2]? = some (901, 0) := SH_A L (by decide)
theorem s3 (L : Nat) : (SH L)[3]? = some (901, 0) := SH_A L (by decide)
theorem s4 (L : Nat) : (SH L)[4]? = some (901, 0) := SH_A L (by decide)
theorem s5 (L : Nat) : (SH L)[5]? = some (901, 0) := SH_A L (by decide)
theorem s6 (L : Nat) : (SH L)[6]? = some (901, 0) := SH_A L (by decide)
theorem s7 (L : Nat) : (SH L)[7]? = some (901, 0) := SH_A L (by decide)
theorem s8 (L : Nat) : (SH L)[8]? = some (902, 5) := SH_A L (by decide)
theorem s9 (L : Nat) : (SH L)[9]? = some (902, 4) := SH_A L (by decide)
theorem s10 (L : Nat) : (SH L)[10]? = some (902, 3) := SH_A L (by decide)
theorem s11 (L : Nat) : (SH L)[11]? = some (902, 4) := SH_A L (by decide)
theorem s12 (L : Nat) : (SH L)[12]? = some (902, 4) := SH_A L (by decide)
theorem s13 (L : Nat) : (SH L)[13]? = some (902, 4) := SH_A L (by decide)
theorem s14 (L : Nat) : (SH L)[14]? = some (902, 5) := SH_A L (by decide)
/-- case number i, its rows and their codes -/
def CS (i : Nat) : Nat := 25 + 14 * i
theorem sk0 (L : Nat) {i : Nat} (hi : i < 40) : (SH L)[25 + 14 * i + 0]? = some (4, 15) := SH_K L hi (by decide)
theorem sk1 (L : Nat) {i : Nat} (hi : i < 40) : (SH L)[25 + 14 * i + 1]? = some (3, 2) := SH_K L hi (by decide)
theorem sk2 (L : Nat) {i : Nat} (hi : i < 40) : (SH L)[25 + 14 * i + 2]? = some (101, 8) := SH_K L hi (by decide)
theorem sk3 (L : Nat) {i : Nat} (hi : i < 40) : (SH L)[25 + 14 * i + 3]? = some (3, 2) := SH_K L hi (by decide)
theorem sk4 (L : Nat) {i : Nat} (hi : i < 40) : (SH L)[25 + 14 * i + 4]? = some (101, 4) := SH_K L hi (by decide)
theorem sk5 (L : Nat) {i : Nat} (hi : i < 40) : (SH L)[25 + 14 * i + 5]? = some (404, 4) := SH_K L hi (by decide)
theorem sk6 (L : Nat) {i : Nat} (hi : i < 40) : (SH L)[25 + 14 * i + 6]? = some (3, 2) := SH_K L hi (by decide)
theorem sk7 (L : Nat) {i : Nat} (hi : i < 40) : (SH L)[25 + 14 * i + 7]? = some (101, 6) := SH_K L hi (by decide)
theorem sk8 (L : Nat) {i : Nat} (hi : i < 40) : (SH L)[25 + 14 * i + 8]? = some (3, 2) := SH_K L hi (by decide)
theorem sk9 (L : Nat) {i : Nat} (hi : i < 40) : (SH L)[25 + 14 * i + 9]? = some (101, 6) := SH_K L hi (by decide)
theorem sk10 (L : Nat) {i : Nat} (hi : i < 40) : (SH L)[25 + 14 * i + 10]? = some (3, 2) := SH_K L hi (by decide)
theorem sk11 (L : Nat) {i : Nat} (hi : i < 40) : (SH L)[25 + 14 * i + 11]? = some (101, 6) := SH_K L hi (by decide)
theorem sk12 (L : Nat) {i : Nat} (hi : i < 40) : (SH L)[25 + 14 * i + 12]? = some (3, 2) := SH_K L hi (by decide)
theorem sk13 (L : Nat) {i : Nat} (hi : i < 40) : (SH L)[25 + 14 * i + 13]? = some (101, 6) := SH_K L hi (by decide)
theorem SH_length (L : Nat) : (SH L).length = 648 := by unfold SH; simp only [List.length_append, SHKs_len]; rfl
/-- where the fixed references lead; b: which filter is in force -/
def FRl : List (Nat × Nat × Nat) := [(17, 0, 18), (16, 0, 17), (19, 0, 20), (21, 0, 22), (19, 2, 21), (19, 3, 23), (19, 5, 24), (16, 1, 19), (586, 0, 587), (585, 2, 586), (585, 0, 19), (588, 0, 589), (588, 1, 590), (588, 3, 20), (585, 1, 588), (16, 2, 585), (591, 0, 17), (591, 1, 18), (592, 0, 593), (592, 1, 594), (592, 2, 595), (592, 3, 596), (16, 3, 591), (597, 0, 598), (16, 4, 597), (599, 0, 600), (599, 1, 601), (599, 2, 602), (599, 3, 603), (604, 2, 605), (604, 4, 606), (604, 6, 607), (604, 7, 608), (604, 9, 609), (604, 10, 610), (604, 11, 611), (604, 12, 612), (604, 13, 613), (604, 15, 614), (604, 16, 615), (604, 17, 616), (604, 18, 617), (604, 19, 618), (604, 20, 619), (604, 21, 620), (604, 22, 621), (604, 23, 622), (604, 24, 623), (604, 25, 624), (604, 26, 625), (604, 27, 626), (604, 28, 627), (604, 29, 628), (604, 30, 629), (604, 31, 630), (604, 34, 631), (604, 35, 632), (604, 37, 633), (604, 39, 634), (604, 41, 635), (604, 42, 636), (604, 43, 637), (604, 44, 638), (604, 45, 639), (604, 48, 640), (604, 49, 641), (604, 50, 642), (604, 51, 643), (604, 52, 644), (604, 53, 645), (604, 58, 646), (604, 59, 647)]
def FRk : List (Nat × Nat × Nat) := [(1, 0, 2), (0, 12, 1), (3, 0, 4), (0, 13, 3), (0, 14, 5), (6, 0, 7), (5, 0, 6), (8, 0, 9), (5, 1, 8), (10, 0, 11), (5, 2, 10), (12, 0, 13), (5, 3, 12)]
/-- the references are where they are to be; F: the filter in force, G: the other -/
def FRok (F G : Nat) (fr : Nat → Nat → Option Nat) : Prop := (∀ q ∈ FRl, fr q.1 q.2.1 = some q.2.2) ∧ (∀ i, i < 40 → ∀ q ∈ FRk, fr (25 + 14 * i + q.1) q.2.1 = some (25 + 14 * i + q.2.2)) ∧ (∀ i, i < 40 → fr 23 i = some (25 + 14 * i)) ∧ fr 591 4 = some G ∧ fr 16 5 = some F
theorem FRok.l {F G : Nat} {fr : Nat → Nat → Option Nat} (h : FRok F G fr) {a k v : Nat} (i : Nat) (hi : FRl[i]? = some (a, k, v)) : fr a k = some v := h.1 _ (List.mem_of_getElem? hi)
theorem FRok.k {F G : Nat} {fr : Nat → Nat → Option Nat} (h : FRok F G fr) {i a k v : Nat} (hi : i < 40) (j : Nat) (hj : FRk[j]? = some (a, k, v)) : fr (25 + 14 * i + a) k = some (25 + 14 * i + v) := h.2.1 i hi _ (List.mem_of_getElem? hj)
theorem k_0 : am_code 0 = cd_0 := rfl
theorem q_0 : at_tab[0]? = some mt_0 := rfl
theorem k_1 : am_code 1 = cd_1 := rfl
theorem q_1 : at_tab[1]? = some mt_1 := rfl
theorem k_2 : am_code 2 = cd_2 := rfl
theorem q_2 : at_tab[2]? = some mt_2 := rfl
theorem k_3 : am_code 3 = cd_3 := rfl
theorem q_3 : at_tab[3]? = some mt_3 := rfl
theorem k_4 : am_code 4 = cd_4 := rfl
theorem q_4 : at_tab[4]? = some mt_4 := rfl
theorem k_5 : am_code 5 = cd_5 := rfl
theorem q_5 : at_tab[5]? = some mt_5 := rfl
theorem k_6 : am_code 6 = cd_6 := rfl
theorem q_6 : at_tab[6]? = some mt_6 := rfl
theorem k_7 : am_code 7 = cd_7 := rfl
theorem q_7 : at_tab[7]? = some mt_7 := rfl
theorem k_8 : am_code 8 = cd_8 := rfl
theorem q_8 : at_tab[8]? = some mt_8 := rfl
theorem k_9 : am_code 9 = cd_9 := rfl
theorem q_9 : at_tab[9]? = some mt_9 := rfl
theorem k_10 : am_code 10 = cd_10 := rfl
theorem q_10 : at_tab[10]? = some mt_10 := rfl
theorem k_11 : am_code 11 = cd_11 := rfl
theorem q_11 : at_tab[11]? = some mt_11 := rfl
theorem k_12 : am_code 12 = cd_12 := rfl
theorem q_12 : at_tab[12]? = some mt_12 := rfl
theorem k_13 : am_code 13 = cd_13 := rfl
theorem q_13 : at_tab[13]? = some mt_13 := rfl
theorem k_14 : am_code 14 = cd_14 := rfl
theorem q_14 : at_tab[14]? = some mt_14 := rfl
theorem k_15 : am_code 15 = cd_15 := rfl
theorem q_15 : at_tab[15]? = some mt_15 := rfl
theorem k_16 : am_code 16 = cd_16 := rfl
theorem q_16 : at_tab[16]? = some mt_16 := rfl
theorem k_17 : am_code 17 = cd_17 := rfl
theorem q_17 : at_tab[17]? = some mt_17 := rfl
theorem k_18 : am_code 18 = cd_18 := rfl
theorem q_18 : at_tab[18]? = some mt_18 := rfl
theorem k_19 : am_code 19 = cd_19 := rfl
theorem q_19 : at_tab[19]? = some mt_19 := rfl
theorem k_20 : am_code 20 = cd_20 := rfl
theorem q_20 : at_tab[20]? = some mt_20 := rfl
theorem k_21 : am_code 21 = cd_21 := rfl
theorem q_21 : at_tab[21]? = some mt_21 := rfl
theorem k_22 : am_code 22 = cd_22 := rfl
theorem q_22 : at_tab[22]? = some mt_22 := rfl
theorem k_23 : am_code 23 = cd_23 := rfl
theorem q_23 : at_tab[23]? = some mt_23 := rfl
theorem k_24 : am_code 24 = cd_24 := rfl
theorem q_24 : at_tab[24]? = some mt_24 := rfl
theorem k_25 : am_code 25 = cd_25 := rfl
theorem q_25 : at_tab[25]? = some mt_25 := rfl
theorem k_26 : am_code 26 = cd_26 := rfl
theorem q_26 : at_tab[26]? = some mt_26 := rfl
theorem k_27 : am_code 27 = cd_27 := rfl
theorem q_27 : at_tab[27]? = some mt_27 := rfl
theorem k_28 : am_code 28 = cd_28 := rfl
theorem q_28 : at_tab[28]? = some mt_28 := rfl
theorem k_29 : am_code 29 = cd_29 := rfl
theorem q_29 : at_tab[29]? = some mt_29 := rfl
theorem k_30 : am_code 30 = cd_30 := rfl
theorem q_30 : at_tab[30]? = some mt_30 := rfl
theorem k_31 : am_code 31 = cd_31 := rfl
theorem q_31 : at_tab[31]? = some mt_31 := rfl
theorem k_32 : am_code 32 = cd_32 := rfl
theorem q_32 : at_tab[32]? = some mt_32 := rfl
theorem k_33 : am_code 33 = cd_33 := rfl
theorem q_33 : at_tab[33]? = some mt_33 := rfl
theorem k_34 : am_code 34 = cd_34 := rfl
theorem q_34 : at_tab[34]? = some mt_34 := rfl
theorem k_35 : am_code 35 = cd_35 := rfl
theorem q_35 : at_tab[35]? = some mt_35 := rfl
theorem k_36 : am_code 36 = cd_36 := rfl
theorem q_36 : at_tab[36]? = some mt_36 := rfl
theorem k_37 : am_code 37 = cd_37 := rfl
theorem q_37 : at_tab[37]? = some mt_37 := rfl
theorem k_38 : am_code 38 = cd_38 := rfl
theorem q_38 : at_tab[38]? = some mt_38 := rfl
theorem k_39 : am_code 39 = cd_39 := rfl
theorem q_39 : at_tab[39]? = some mt_39 := rfl
theorem k_40 : am_code 40 = cd_40 := rfl
theorem q_40 : at_tab[40]? = some mt_40 := rfl
theorem k_41 : am_code 41 = cd_41 := rfl
theorem q_41 : at_tab[41]? = some mt_41 := rfl
theorem k_42 : am_code 42 = cd_42 := rfl
theorem q_42 : at_tab[42]? = some mt_42 := rfl
theorem k_43 : am_code 43 = cd_43 := rfl
theorem q_43 : at_tab[43]? = some mt_43 := rfl
theorem k_44 : am_code 44 = cd_44 := rfl
theorem q_44 : at_tab[44]? = some mt_44 := rfl
theorem k_45 : am_code 45 = cd_45 := rfl
theorem q_45 : at_tab[45]? = some mt_45 := rfl
theorem k_46 : am_code 46 = cd_46 := rfl
theorem q_46 : at_tab[46]? = some mt_46 := rfl
theorem k_47 : am_code 47 = cd_47 := rfl
theorem q_47 : at_tab[47]? = some mt_47 := rfl
theorem k_48 : am_code 48 = cd_48 := rfl
theorem q_48 : at_tab[48]? = some mt_48 := rfl
theorem k_49 : am_code 49 = cd_49 := rfl
theorem q_49 : at_tab[49]? = some mt_49 := rfl
theorem k_50 : am_code 50 = cd_50 := rfl
theorem q_50 : at_tab[50]? = some mt_50 := rfl
theorem k_51 : am_code 51 = cd_51 := rfl
theorem q_51 : at_tab[51]? = some mt_51 := rfl
theorem k_52 : am_code 52 = cd_52 := rfl
theorem q_52 : at_tab[52]? = some mt_52 := rfl
theorem k_53 : am_code 53 = cd_53 := rfl
theorem q_53 : at_tab[53]? = some mt_53 := rfl
theorem k_54 : am_code 54 = cd_54 := rfl
theorem q_54 : at_tab[54]? = some mt_54 := rfl
theorem k_55 : am_code 55 = cd_55 := rfl
theorem q_55 : at_tab[55]? = some mt_55 := rfl
theorem k_56 : am_code 56 = cd_56 := rfl
theorem q_56 : at_tab[56]? = some mt_56 := rfl
theorem k_57 : am_code 57 = cd_57 := rfl
theorem q_57 : at_tab[57]? = some mt_57 := rfl
theorem k_58 : am_code 58 = cd_58 := rfl
theorem q_58 : at_tab[58]? = some mt_58 := rfl
theorem k_59 : am_code 59 = cd_59 := rfl
theorem q_59 : at_tab[59]? = some mt_59 := rfl
theorem k_60 : am_code 60 = cd_60 := rfl
theorem q_60 : at_tab[60]? = some mt_60 := rfl
theorem k_61 : am_code 61 = cd_61 := rfl
theorem q_61 : at_tab[61]? = some mt_61 := rfl
theorem k_62 : am_code 62 = cd_62 := rfl
theorem q_62 : at_tab[62]? = some mt_62 := rfl
theorem k_63 : am_code 63 = cd_63 := rfl
theorem q_63 : at_tab[63]? = some mt_63 := rfl
theorem k_64 : am_code 64 = cd_64 := rfl
theorem q_64 : at_tab[64]? = some mt_64 := rfl
theorem k_65 : am_code 65 = cd_65 := rfl
theorem q_65 : at_tab[65]? = some mt_65 := rfl
theorem k_66 : am_code 66 = cd_66 := rfl
theorem q_66 : at_tab[66]? = some mt_66 := rfl
theorem k_67 : am_code 67 = cd_67 := rfl
theorem q_67 : at_tab[67]? = some mt_67 := rfl
theorem k_68 : am_code 68 = cd_68 := rfl
theorem q_68 : at_tab[68]? = some mt_68 := rfl
theorem k_69 : am_code 69 = cd_69 := rfl
theorem q_69 : at_tab[69]? = some mt_69 := rfl
theorem k_70 : am_code 70 = cd_70 := rfl
theorem q_70 : at_tab[70]? = some mt_70 := rfl
theorem k_71 : am_code 71 = cd_71 := rfl
theorem q_71 : at_tab[71]? = some mt_71 := rfl
theorem k_72 : am_code 72 = cd_72 := rfl
theorem q_72 : at_tab[72]? = some mt_72 := rfl
theorem k_73 : am_code 73 = cd_73 := rfl
theorem q_73 : at_tab[73]? = some mt_73 := rfl
theorem k_74 : am_code 74 = cd_74 := rfl
theorem q_74 : at_tab[74]? = some mt_74 := rfl
theorem k_75 : am_code 75 = cd_75 := rfl
theorem q_75 : at_tab[75]? = some mt_75 := rfl
theorem k_76 : am_code 76 = cd_76 := rfl
theorem q_76 : at_tab[76]? = some mt_76 := rfl
theorem k_77 : am_code 77 = cd_77 := rfl
theorem q_77 : at_tab[77]? = some mt_77 := rfl
theorem k_78 : am_code 78 = cd_78 := rfl
theorem q_78 : at_tab[78]? = some mt_78 := rfl
theorem k_79 : am_code 79 = cd_79 := rfl
theorem q_79 : at_tab[79]? = some mt_79 := rfl
theorem k_80 : am_code 80 = cd_80 := rfl
theorem q_80 : at_tab[80]? = some mt_80 := rfl
theorem k_81 : am_code 81 = cd_81 := rfl
theorem q_81 : at_tab[81]? = some mt_81 := rfl
theorem k_82 : am_code 82 = cd_82 := rfl
theorem q_82 : at_tab[82]? = some mt_82 := rfl
theorem k_83 : am_code 83 = cd_83 := rfl
theorem q_83 : at_tab[83]? = some mt_83 := rfl
theorem k_84 : am_code 84 = cd_84 := rfl
theorem q_84 : at_tab[84]? = some mt_84 := rfl
theorem k_85 : am_code 85 = cd_85 := rfl
theorem q_85 : at_tab[85]? = some mt_85 := rfl
theorem k_86 : am_code 86 = cd_86 := rfl
theorem q_86 : at_tab[86]? = some mt_86 := rfl
theorem k_87 : am_code 87 = cd_87 := rfl
theorem q_87 : at_tab[87]? = some mt_87 := rfl
theorem k_88 : am_code 88 = cd_88 := rfl
theorem q_88 : at_tab[88]? = some mt_88 := rfl
theorem k_89 : am_code 89 = cd_89 := rfl
theorem q_89 : at_tab[89]? = some mt_89 := rfl
theorem k_90 : am_code 90 = cd_90 := rfl
theorem q_90 : at_tab[90]? = some mt_90 := rfl
theorem k_91 : am_code 91 = cd_91 := rfl
theorem q_91 : at_tab[91]? = some mt_91 := rfl
theorem k_92 : am_code 92 = cd_92 := rfl
theorem q_92 : at_tab[92]? = some mt_92 := rfl
theorem k_93 : am_code 93 = cd_93 := rfl
theorem q_93 : at_tab[93]? = some mt_93 := rfl
theorem k_94 : am_code 94 = cd_94 := rfl
theorem q_94 : at_tab[94]? = some mt_94 := rfl
theorem k_95 : am_code 95 = cd_95 := rfl
theorem q_95 : at_tab[95]? = some mt_95 := rfl
theorem k_96 : am_code 96 = cd_96 := rfl
theorem q_96 : at_tab[96]? = some mt_96 := rfl
theorem k_97 : am_code 97 = cd_97 := rfl
theorem q_97 : at_tab[97]? = some mt_97 := rfl
theorem k_98 : am_code 98 = cd_98 := rfl
theorem q_98 : at_tab[98]? = some mt_98 := rfl
theorem k_99 : am_code 99 = cd_99 := rfl
theorem q_99 : at_tab[99]? = some mt_99 := rfl
theorem k_100 : am_code 100 = cd_100 := rfl
theorem q_100 : at_tab[100]? = some mt_100 := rfl
theorem k_101 : am_code 101 = cd_101 := rfl
theorem q_101 : at_tab[101]? = some mt_101 := rfl
theorem k_102 : am_code 102 = cd_102 := rfl
theorem q_102 : at_tab[102]? = some mt_102 := rfl
theorem k_103 : am_code 103 = cd_103 := rfl
theorem q_103 : at_tab[103]? = some mt_103 := rfl
theorem k_104 : am_code 104 = cd_104 := rfl
theorem q_104 : at_tab[104]? = some mt_104 := rfl
theorem k_105 : am_code 105 = cd_105 := rfl
theorem q_105 : at_tab[105]? = some mt_105 := rfl
theorem k_106 : am_code 106 = cd_106 := rfl
theorem q_106 : at_tab[106]? = some mt_106 := rfl
theorem k_107 : am_code 107 = cd_107 := rfl
theorem q_107 : at_tab[107]? = some mt_107 := rfl
theorem k_108 : am_code 108 = cd_108 := rfl
theorem q_108 : at_tab[108]? = some mt_108 := rfl
theorem k_109 : am_code 109 = cd_109 := rfl
theorem q_109 : at_tab[109]? = some mt_109 := rfl
theorem k_110 : am_code 110 = cd_110 := rfl
theorem q_110 : at_tab[110]? = some mt_110 := rfl
theorem k_111 : am_code 111 = cd_111 := rfl
theorem q_111 : at_tab[111]? = some mt_111 := rfl
theorem k_112 : am_code 112 = cd_112 := rfl
theorem q_112 : at_tab[112]? = some mt_112 := rfl
theorem k_113 : am_code 113 = cd_113 := rfl
theorem q_113 : at_tab[113]? = some mt_113 := rfl
theorem k_114 : am_code 114 = cd_114 := rfl
theorem q_114 : at_tab[114]? = some mt_114 := rfl
theorem k_115 : am_code 115 = cd_115 := rfl
theorem q_115 : at_tab[115]? = some mt_115 := rfl
theorem k_116 : am_code 116 = cd_116 := rfl
theorem q_116 : at_tab[116]? = some mt_116 := rfl
theorem k_117 : am_code 117 = cd_117 := rfl
theorem q_117 : at_tab[117]? = some mt_117 := rfl
theorem k_118 : am_code 118 = cd_118 := rfl
theorem q_118 : at_tab[118]? = some mt_118 := rfl
theorem k_119 : am_code 119 = cd_119 := rfl
theorem q_119 : at_tab[119]? = some mt_119 := rfl
theorem k_120 : am_code 120 = cd_120 := rfl
theorem q_120 : at_tab[120]? = some mt_120 := rfl
theorem k_121 : am_code 121 = cd_121 := rfl
theorem q_121 : at_tab[121]? = some mt_121 := rfl
theorem k_122 : am_code 122 = cd_122 := rfl
theorem q_122 : at_tab[122]? = some mt_122 := rfl
theorem k_123 : am_code 123 = cd_123 := rfl
theorem q_123 : at_tab[123]? = some mt_123 := rfl
theorem k_124 : am_code 124 = cd_124 := rfl
theorem q_124 : at_tab[124]? = some mt_124 := rfl
theorem k_125 : am_code 125 = cd_125 := rfl
theorem q_125 : at_tab[125]? = some mt_125 := rfl
theorem k_126 : am_code 126 = cd_126 := rfl
theorem q_126 : at_tab[126]? = some mt_126 := rfl
theorem k_127 : am_code 127 = cd_127 := rfl
theorem q_127 : at_tab[127]? = some mt_127 := rfl
theorem k_128 : am_code 128 = cd_128 := rfl
theorem q_128 : at_tab[128]? = some mt_128 := rfl
theorem k_129 : am_code 129 = cd_129 := rfl
theorem q_129 : at_tab[129]? = some mt_129 := rfl
theorem k_130 : am_code 130 = cd_130 := rfl
theorem q_130 : at_tab[130]? = some mt_130 := rfl
theorem k_131 : am_code 131 = cd_131 := rfl
theorem q_131 : at_tab[131]? = some mt_131 := rfl
theorem k_132 : am_code 132 = cd_132 := rfl
theorem q_132 : at_tab[132]? = some mt_132 := rfl
theorem k_133 : am_code 133 = cd_133 := rfl
theorem q_133 : at_tab[133]? = some mt_133 := rfl
theorem k_134 : am_code 134 = cd_134 := rfl
theorem q_134 : at_tab[134]? = some mt_134 := rfl
theorem k_135 : am_code 135 = cd_135 := rfl
theorem q_135 : at_tab[135]? = some mt_135 := rfl
theorem k_136 : am_code 136 = cd_136 := rfl
theorem q_136 : at_tab[136]? = some mt_136 := rfl
theorem k_137 : am_code 137 = cd_137 := rfl
theorem q_137 : at_tab[137]? = some mt_137 := rfl
theorem k_138 : am_code 138 = cd_138 := rfl
theorem q_138 : at_tab[138]? = some mt_138 := rfl
theorem k_139 : am_code 139 = cd_139 := rfl
theorem q_139 : at_tab[139]? = some mt_139 := rfl
theorem k_140 : am_code 140 = cd_140 := rfl
theorem q_140 : at_tab[140]? = some mt_140 := rfl
theorem k_141 : am_code 141 = cd_141 := rfl
theorem q_141 : at_tab[141]? = some mt_141 := rfl
theorem k_142 : am_code 142 = cd_142 := rfl
theorem q_142 : at_tab[142]? = some mt_142 := rfl
theorem k_143 : am_code 143 = cd_143 := rfl
theorem q_143 : at_tab[143]? = some mt_143 := rfl
theorem k_144 : am_code 144 = cd_144 := rfl
theorem q_144 : at_tab[144]? = some mt_144 := rfl
theorem k_145 : am_code 145 = cd_145 := rfl
theorem q_145 : at_tab[145]? = some mt_145 := rfl
theorem k_146 : am_code 146 = cd_146 := rfl
theorem q_146 : at_tab[146]? = some mt_146 := rfl
