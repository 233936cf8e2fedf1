/-! ===== the pure side: both coast readers: the items of each clause ===== -/
section Kinds
variable {N : Nat} {τ : Nat → Nat} {z p : Nat} {M : mj_M}
theorem mk_qx.a5 (h : mk_qx τ z p M) {f : Nat → Int32} : mk_qx τ z p (mj_a M 5 f) :=
  ⟨⟨h.1.1, by rw [nw_a9 _ (by omega)]; exact h.1.2.1, fun k hk => by rw [nw_a9 _ (by omega)]; exact h.1.2.2 k hk⟩, h.2.1, by rw [nw_a9 _ (by omega)]; exact h.2.2.1, by rw [nw_a9 _ (by omega)]; exact h.2.2.2⟩
theorem mk_Ms_0 {b U k n : Nat} (hb : b + 4 ≤ 4) (hU : U < 16) (hk : k < 4) (hu : nw_b U k = 0) (h : mk_qm τ z p M) : F_M_items_c59_b41 N (n + 1) (nI 115) (nI b) (nI U) (nI k) M = F_M_items_c59_b106 N (F_M_items_c59_b41 N n) (nI 115) (nI b) (nI (U ||| 2 ^ k)) (nI k) (nI (b + k)) (nI (mk_tlo (0 + k))) (mj_u M 48 3 (nI (p + 1))) := by
  have e1 : ((1 : Int32) <<< (nI k &&& 31)) = nI (2 ^ k) := nw_shl (by omega)
  rw [F_M_items_c59_b41, if_pos h.ok, if_neg (mk_nm1 (by omega)), mk_Mhas (by omega) (by omega), mk_bs, hu, if_pos (show nI 0 = (0 : Int32) from rfl)]
  simp only [mj_lt]
  rw [e1, nw_or, nI_add, h.2.2.1, nI_1]
  rw [if_neg (show ¬ nI 115 = (116 : Int32) by decide +kernel), F_M_items_c59_b105]
  have e0 : mk_tlo (0 + k) = 0 := by
    rcases (show k = 0 ∨ k = 1 ∨ k = 2 ∨ k = 3 by omega) with rfl | rfl | rfl | rfl <;> rfl
  rw [e0]
  rfl
theorem mk_Ait_0 (hN : 1000 ≤ N) (hz : mk_tp τ z) {b : Nat} (hb : b + 4 ≤ 4) : ∀ d i U (I : Nat → Nat) p n m, i + d = 4 → U < 16 → mk_uc U = i → d < n → d < m → p ≤ z → mk_ib 0 4 I → mk_gi τ z 0 4 59 b I p (fun M => F_CoastReader_readItems_b24 N n (0 : Int32) (4 : Int32) (nI (U * 2 ^ 0)) (nI (0 + i)) M) (fun M => F_M_items_c59_b41 N m (nI 115) (nI b) (nI U) (if mk_kk 0 4 (mk_ch τ z p) < 9 then nI (mk_kk 0 4 (mk_ch τ z p)) else -nI 1) M) := by
  have hz2 := hz.1
  intro d
  induction d with
  | zero =>
    intro i U I p n m hi hU hpc hn hm hp hI
    obtain ⟨n, rfl⟩ : ∃ k, n = k + 1 := ⟨n - 1, by omega⟩
    obtain ⟨m, rfl⟩ : ∃ k, m = k + 1 := ⟨m - 1, by omega⟩
    have hs := mk_sq_in τ z p
    refine Or.inl ⟨I, p, mk_sq τ z p, Nat.le_refl _, hp, by omega, (mk_sq2 τ z p).symm, hI, fun M h hM => ⟨M, ?_, h, hM, fun _ _ _ => rfl⟩, fun M h hM => ⟨M, ?_, h, hM, fun _ _ _ => rfl⟩⟩
    · show F_CoastReader_readItems_b24 N (n + 1) _ _ _ _ M = _
      rw [F_CoastReader_readItems_b24, show i = 4 by omega, if_pos (show (4 : Int32) ≤ nI (0 + 4) by decide +kernel)]
    · show F_M_items_c59_b41 N (m + 1) _ _ _ _ M = _
      rw [F_M_items_c59_b41, if_pos h.ok]
      by_cases k9 : mk_kk 0 4 (mk_ch τ z p) < 9
      · have hkm := (mk_kk9 (show 4 = 3 ∨ 4 = 4 by omega) k9).1
        rw [if_pos k9, if_neg (mk_nm1 (by omega)), mk_Mhas (by omega) (by omega), mk_bs, mk_ua16 U hU (by omega) _ hkm, if_neg (show ¬ nI 1 = (0 : Int32) by decide +kernel)]
      · rw [if_neg k9, if_pos (show -nI 1 = (-1 : Int32) from rfl)]
  | succ d ih =>
    intro i U I p n m hi hU hpc hn hm hp hI
    obtain ⟨n, rfl⟩ : ∃ k, n = k + 1 := ⟨n - 1, by omega⟩
    obtain ⟨m, rfl⟩ : ∃ k, m = k + 1 := ⟨m - 1, by omega⟩
    have hs := mk_sq_in τ z p
    have uw := (mk_us 0 (by omega) U (by omega) 0 (by omega)).2.2
    have t7 : ¬ (4 : Int32) ≤ nI (0 + i) := by rw [nl_4]; exact nI_ge (by omega) (by omega)
    by_cases A : mk_kk 0 4 (mk_ch τ z p) < 9 ∧ nw_b U (mk_kk 0 4 (mk_ch τ z p)) = 0
    · obtain ⟨hkm, hkc⟩ := mk_kk9 (show 4 = 3 ∨ 4 = 4 by omega) A.1
      have hX := fun M (h : mk_qx τ z p M) => mk_Xia_0 hN h hU
      generalize hk : mk_kk 0 4 (mk_ch τ z p) = k at *
      have t9 := mk_t99 (0 + k) (by omega)
      have hlt : mk_sq τ z p < z := by
        have hc0 := mk_c0_0 hz (mk_sq τ z p)
        have : mk_ch τ z p = mk_c0 τ z (mk_sq τ z p) := rfl
        omega
      have us := mk_us 0 (by omega) U (by omega) k (by omega)
      have uU : U ||| 2 ^ k < 16 := (mk_ub U hU _ hkm A.2).1
      have up := (mk_ub U (by omega) k (by omega) A.2).2
      have uw2 := (mk_us 0 (by omega) (U ||| 2 ^ k) (by omega) 0 (by omega)).2.2
      have e1 : ((1 : Int32) <<< (nI (0 + k) &&& 31)) = nI (2 ^ (0 + k)) := nw_shl (by omega)
      have sX : ∀ M, mk_qx τ z p M → F_CoastReader_readItems_b24 N (n + 1) (0 : Int32) (4 : Int32) (nI (U * 2 ^ 0)) (nI (0 + i)) M = (F_Tape_number N (2 : Int32) (nI (mk_tlo (0 + k))) (nI (mk_thi (0 + k))) (mj_u M 2 2 (nI (mk_sq τ z p + 1)))).bind (fun q8 => F_CoastReader_readItems_b24 N n (0 : Int32) (4 : Int32) (nI ((U ||| 2 ^ k) * 2 ^ 0)) (nI (0 + (i + 1))) (mj_u q8.2 5 (0 + k) q8.1)) := by
        intro M h
        rw [F_CoastReader_readItems_b24, if_neg t7, hX M h, mk_bs, if_pos A]
        dsimp only
        rw [if_neg (mk_nm1 (by omega))]
        simp only [mj_lt]
        rw [mj_u_eq, mj_up_eq, nI_1, mj_uu, nw_ck (show 0 + k < ([0, 0, 0, 0, 0, 0, 0, 1, 0, 0] : List Int32).length by show 0 + k < 10; omega) (by decide), nw_ck (show 0 + k < ([99, 63, 5, 9, 63, 9, 9, 9, 9, 1] : List Int32).length by show 0 + k < 10; omega) (by decide), nI_clamp (by omega), mk_tlo_x _ (by omega), mk_thi_x _ (by omega), e1, nw_or, us.2.1, nI_1]
        congr 1
        funext q8
        rw [nw_ck (by omega) (by omega)]
        rfl
      have sM : ∀ M, mk_qm τ z (mk_sq τ z p) M → F_M_items_c59_b41 N (m + 1) (nI 115) (nI b) (nI U) (nI k) M = (F_M_number N (nI (mk_tlo (0 + k))) (nI (mk_thi (0 + k))) (mj_u M 48 3 (nI (mk_sq τ z p + 1)))).bind (fun q15 => if (mj_u q15.2 59 (b + k) q15.1) 48 4 = (-1 : Int32) then ((F_M_look N (mj_u q15.2 59 (b + k) q15.1)).bind (fun q18 => (F_M_itemOf (nI 115) q18.1 q18.2).bind (fun q19 => F_M_items_c59_b41 N m (nI 115) (nI b) (nI (U ||| 2 ^ k)) q19.1 q19.2))) else (F_M_items_c59_b41 N m (nI 115) (nI b) (nI (U ||| 2 ^ k)) (-1 : Int32) (mj_u q15.2 59 (b + k) q15.1))) := by
        intro M h
        rw [mk_Ms_0 hb hU hkm A.2 h, F_M_items_c59_b106, mk_Mhi_0 hkm, mk_bs]
        dsimp only
        congr 1
        funext q15
        rw [nw_ck (by omega) (by omega), nI_clamp (by omega)]
        rfl
      rcases mk_num2 (p := mk_sq τ z p + 1) hN hz (by omega) t9.1 t9.2.1 with ⟨v, p', a1, a2, a3, a4, a5, a6⟩ | ⟨w, x1, x2, y1, y2, a1, a2, a3⟩
      · have hI1 : mk_ib 0 4 (va_up I k v) := fun j hj => by
          by_cases e : j = k
          · rw [e, mj_up_eq]; exact ⟨a3, a4⟩
          · rw [mj_up_ne _ _ _ e]; exact hI j hj
        have gX : ∀ M, mk_qx τ z p M → ∃ M1, mk_qx τ z p' M1 ∧ ((∀ j, j < 4 → M 5 (0 + j) = nI (I j)) → ∀ j, j < 4 → M1 5 (0 + j) = nI (va_up I k v j)) ∧ (∀ c, c ≠ 2 → c ≠ 5 → M1 c = M c) ∧ F_CoastReader_readItems_b24 N (n + 1) (0 : Int32) (4 : Int32) (nI (U * 2 ^ 0)) (nI (0 + i)) M = F_CoastReader_readItems_b24 N n (0 : Int32) (4 : Int32) (nI ((U ||| 2 ^ k) * 2 ^ 0)) (nI (0 + (i + 1))) M1 := by
          intro M h
          refine ⟨mj_u (mj_u M 2 2 (nI p')) 5 (0 + k) (nI v), (h.at a2).u (by omega), fun hM j hj => ?_, fun c h1 h2 => by rw [nw_u9 _ h2, nw_u9 _ h1], ?_⟩
          · rw [mj_u_eq]
            by_cases e : j = k
            · rw [e, mj_up_eq, mj_up_eq]
            · rw [mj_up_ne _ _ _ (by omega), mj_up_ne _ _ _ e, nw_u9 _ (by omega)]; exact hM j hj
          · rw [sX M h, a5 _ (h.at (by omega)), mk_bs, mj_uu]
        have gM : ∀ M, mk_qm τ z (mk_sq τ z p) M → ∃ M1, mk_qm τ z (mk_sq τ z p') M1 ∧ ((∀ j, j < 4 → M 59 (b + j) = nI (I j)) → ∀ j, j < 4 → M1 59 (b + j) = nI (va_up I k v j)) ∧ mk_fi 59 b 4 M M1 ∧ F_M_items_c59_b41 N (m + 1) (nI 115) (nI b) (nI U) (nI k) M = F_M_items_c59_b41 N m (nI 115) (nI b) (nI (U ||| 2 ^ k)) (if mk_kk 0 4 (mk_ch τ z p') < 9 then nI (mk_kk 0 4 (mk_ch τ z p')) else -nI 1) M1 := by
          intro M h
          have h1 := (h.at a2).u (c := 59) (k := b + k) (x := nI v) (by omega)
          have hs' := mk_sq_in τ z p'
          have hl : mk_ch τ z p' < 256 := mk_c0_lt hz _
          refine ⟨mj_u (mj_u (mj_u M 48 3 (nI p')) 59 (b + k) (nI v)) 48 3 (nI (mk_sq τ z p')), h1.at (by omega), fun hM j hj => ?_, ((mk_fi.rf.u (by omega)).u (by omega)).u (by omega), ?_⟩
          · rw [nw_u9 _ (by omega), mj_u_eq]
            by_cases e : j = k
            · rw [e, mj_up_eq, mj_up_eq]
            · rw [mj_up_ne _ _ _ (by omega), mj_up_ne _ _ _ e, nw_u9 _ (by omega)]; exact hM j hj
          · rw [sM M h, a6 _ (h.at (by omega)), mk_bs, mj_uu]
            dsimp only
            rw [if_pos h1.ok, h1.pk hN, mk_bs]
            dsimp only
            rw [mk_Mit_0 hl, mk_bs]
        rcases ih (i + 1) (U ||| 2 ^ k) (va_up I k v) p' n m (by omega) uU (by omega) (by omega) (by omega) a2 hI1 with ⟨I', p1, p2, b1, b2, b3, b4, b5, b6, b7⟩ | ⟨w, b1, b2, b3⟩
        · refine Or.inl ⟨I', p1, p2, by omega, b2, b3, b4, b5, fun M h hM => ?_, fun M h hM => ?_⟩
          · obtain ⟨M1, x1, x2, x3, x4⟩ := gX M h
            obtain ⟨M2, x5, x6, x7, x8⟩ := b6 M1 x1 (x2 hM)
            exact ⟨M2, x4.trans x5, x6, x7, fun c h1 h2 => (x8 c h1 h2).trans (x3 c h1 h2)⟩
          · obtain ⟨M1, x1, x2, x3, x4⟩ := gM M h
            obtain ⟨M2, x5, x6, x7, x8⟩ := b7 M1 x1 (x2 hM)
            refine ⟨M2, ?_, x6, x7, x3.tr x8⟩
            show F_M_items_c59_b41 N (m + 1) (nI 115) (nI b) (nI U) _ M = _
            rw [if_pos A.1]
            exact x4.trans x5
        · refine Or.inr ⟨w, b1, fun M h => ?_, fun M h => ?_⟩
          · obtain ⟨M1, x1, x2, x3, x4⟩ := gX M h
            obtain ⟨M2, x5, x6, x7, x8⟩ := b2 M1 x1
            exact ⟨M2, x4.trans x5, x6, x7, fun c h1 h2 => (x8 c h1 h2).trans (x3 c h1 h2)⟩
          · obtain ⟨M1, x1, x2, x3, x4⟩ := gM M h
            obtain ⟨M2, x5, x6, x7⟩ := b3 M1 x1
            refine ⟨M2, ?_, x6, x3.tr x7⟩
            show F_M_items_c59_b41 N (m + 1) (nI 115) (nI b) (nI U) _ M = _
            rw [if_pos A.1]
            exact x4.trans x5
      · obtain ⟨n, rfl⟩ : ∃ k, n = k + 1 := ⟨n - 1, by omega⟩
        obtain ⟨m, rfl⟩ : ∃ k, m = k + 1 := ⟨m - 1, by omega⟩
        refine Or.inr ⟨w, a1, fun M h => ?_, fun M h => ?_⟩
        · refine ⟨mj_u (mj_u (mj_u M 2 2 x1) 2 3 (nI w)) 5 (0 + k) y1, ?_, by rw [nw_u9 _ (by omega), mj_u_eq, mj_up_eq], by rw [nw_u9 _ (by omega), mj_u_eq, mj_up_ne _ _ _ (by omega), mj_u_eq, mj_up_ne _ _ _ (by omega)]; exact h.1.2.1, fun c h1 h2 => by rw [nw_u9 _ h2, nw_u9 _ h1, nw_u9 _ h1]⟩
          show F_CoastReader_readItems_b24 N (n + 1 + 1) _ _ _ _ M = _
          rw [sX M h, a2 _ (h.at (by omega)), mk_bs, mj_uu]
          dsimp only
          exact mk_b24f (f := 0) (t := 4) (w := w) hN (by rw [nw_u9 _ (by omega), mj_u_eq, mj_up_eq]) (by omega) uw2 (by omega) (by omega) _
        · have e4 : mj_u (mj_u (mj_u M 48 3 x2) 48 4 (nI w)) 59 (b + k) y2 48 4 = nI w := by rw [nw_u9 _ (by omega), mj_u_eq, mj_up_eq]
          refine ⟨mj_u (mj_u (mj_u M 48 3 x2) 48 4 (nI w)) 59 (b + k) y2, ?_, e4, ((mk_fi.rf.u (by omega)).u (by omega)).u (by omega)⟩
          show F_M_items_c59_b41 N (m + 1 + 1) (nI 115) (nI b) (nI U) _ M = _
          rw [if_pos A.1, sM M h, a3 _ (h.at (by omega)), mk_bs, mj_uu]
          dsimp only
          have e5 : ¬ mj_u (mj_u (mj_u M 48 3 x2) 48 4 (nI w)) 59 (b + k) y2 48 4 = (-1 : Int32) := by rw [e4]; exact mk_nm1 (by omega)
          rw [if_neg e5, F_M_items_c59_b41, if_neg e5]
    · refine Or.inl ⟨I, mk_sq τ z p, mk_sq τ z p, by omega, by omega, by omega, rfl, hI, fun M h hM => ⟨mj_u M 2 2 (nI (mk_sq τ z p)), ?_, h.at (by omega), fun j hj => by rw [nw_u9 _ (by omega)]; exact hM j hj, fun c h1 _ => nw_u9 _ h1⟩, fun M h hM => ⟨M, ?_, h, hM, mk_fi.rf⟩⟩
      · show F_CoastReader_readItems_b24 N (n + 1) _ _ _ _ M = _
        rw [F_CoastReader_readItems_b24, if_neg t7, mk_Xia_0 hN h hU, mk_bs, if_neg A]
        dsimp only
        rw [if_pos (show -nI 1 = (-1 : Int32) from rfl)]
      · show F_M_items_c59_b41 N (m + 1) _ _ _ _ M = _
        rw [F_M_items_c59_b41, if_pos h.ok]
        by_cases k9 : mk_kk 0 4 (mk_ch τ z p) < 9
        · have hkm := (mk_kk9 (show 4 = 3 ∨ 4 = 4 by omega) k9).1
          have b2 := nw_b2 U (mk_kk 0 4 (mk_ch τ z p))
          have b1 : nw_b U (mk_kk 0 4 (mk_ch τ z p)) = 1 := by
            have : ¬ nw_b U (mk_kk 0 4 (mk_ch τ z p)) = 0 := fun e => A ⟨k9, e⟩
            omega
          rw [if_pos k9, if_neg (mk_nm1 (by omega)), mk_Mhas (by omega) (by omega), mk_bs, b1, if_neg (show ¬ nI 1 = (0 : Int32) by decide +kernel)]
        · rw [if_neg k9, if_pos (show -nI 1 = (-1 : Int32) from rfl)]
theorem mk_b3_0 {b : Nat} (hb : b + 4 ≤ 4) : ∀ d i n (M : mj_M), i + d = 4 → d < n → mk_qm τ z p M → (∀ k, k < i → M 59 (b + k) = nI (mk_tus (0 + k))) → ∃ M', mk_qm τ z p M' ∧ (∀ k, k < 4 → M' 59 (b + k) = nI (mk_tus (0 + k))) ∧ mk_fi 59 b 4 M M' ∧ F_M_items_c59_b3 N n (nI 115) (nI b) (4 : Int32) (nI i) M = (F_M_look N M').bind (fun q2 => (F_M_itemOf (nI 115) q2.1 q2.2).bind (fun q3 => F_M_items_c59_b41 N N (nI 115) (nI b) (0 : Int32) q3.1 q3.2)) := by
  intro d
  induction d with
  | zero =>
    intro i n M hi hn h hM
    obtain ⟨n, rfl⟩ : ∃ k, n = k + 1 := ⟨n - 1, by omega⟩
    refine ⟨M, h, fun k hk => hM k (by omega), mk_fi.rf, ?_⟩
    rw [F_M_items_c59_b3, show i = 4 by omega, if_pos (show (4 : Int32) ≤ nI 4 by decide +kernel)]
  | succ d ih =>
    intro i n M hi hn h hM
    obtain ⟨n, rfl⟩ : ∃ k, n = k + 1 := ⟨n - 1, by omega⟩
    obtain ⟨M', x1, x2, x3, x4⟩ := ih (i + 1) n (mj_u M 59 (b + i) (nI (mk_tus (0 + i)))) (by omega) (by omega) (h.u (by omega)) (fun k hk => by
      rw [mj_u_eq]
      by_cases e : k = i
      · rw [e, mj_up_eq]
      · rw [mj_up_ne _ _ _ (by omega)]; exact hM k (by omega))
    refine ⟨M', x1, x2, (mk_fi.rf.u (by omega)).tr x3, ?_⟩
    rw [F_M_items_c59_b3, nl_4, if_neg (nI_ge (by omega) (by omega)), mk_Mus_0 (by omega), mk_bs]
    simp only [mj_lt]
    rw [nI_add, nw_ck (by omega) (by omega), nI_clamp (by omega), nI_1]
    exact x4
theorem mk_tw_0 (M1 : mj_M) : F_CoastReader_takeItemsWithout (0 : Int32) (4 : Int32) M1 = some (mj_a M1 5 (va_cpy (fun j => ([20, 63, 0, 1, 0, 3, 2, 4, 2, 0] : List Int32).getD j 0) (M1 5) 0 0 4)) := by
  have e1 : ((4 : Int32) - (0 : Int32)).toNatClampNeg = 4 := by decide +kernel
  have e2 : (0 : Int32).toNatClampNeg = 0 := by decide +kernel
  have e3 : (4 : Int32) - (0 : Int32) = nI 4 := by decide +kernel
  unfold F_CoastReader_takeItemsWithout
  rw [e1, e2]
  simp only [mj_lt]
  rw [e3]
  exact nw_ac (a := 0) (b := 0) (c := 4) (by decide) (by omega) (by decide) (by omega)
theorem mk_Ard_0 (hN : 1000 ≤ N) (hz : mk_tp τ z) {b : Nat} (hb : b + 4 ≤ 4) (hp : p < z) :
    (∃ I' p1 p2, p + 1 ≤ p1 ∧ p1 ≤ z ∧ p2 ≤ z ∧ mk_sq τ z p1 = mk_sq τ z p2 ∧ mk_ib 0 4 I' ∧ (∀ M, mk_qx τ z p M → ∃ M', F_CoastReader_readItems N (0 : Int32) (4 : Int32) M = some M' ∧ mk_qx τ z p1 M' ∧ (∀ k, k < 4 → M' 5 (0 + k) = nI (I' k)) ∧ (∀ c, c ≠ 2 → c ≠ 5 → M' c = M c)) ∧ (∀ M, mk_qm τ z (p + 1) M → ∃ M', F_M_items_c59 N (nI 115) (nI b) (4 : Int32) M = some M' ∧ mk_qm τ z p2 M' ∧ (∀ k, k < 4 → M' 59 (b + k) = nI (I' k)) ∧ mk_fi 59 b 4 M M'))
    ∨ (∃ w, w ≤ z ∧ (∀ M, mk_qx τ z p M → ∃ M', F_CoastReader_readItems N (0 : Int32) (4 : Int32) M = some M' ∧ M' 2 3 = nI w ∧ M' 2 1 = nI z ∧ (∀ c, c ≠ 2 → c ≠ 5 → M' c = M c)) ∧ (∀ M, mk_qm τ z (p + 1) M → ∃ M', F_M_items_c59 N (nI 115) (nI b) (4 : Int32) M = some M' ∧ M' 48 4 = nI w ∧ mk_fi 59 b 4 M M')) := by
  have hs := mk_sq_in τ z (p + 1)
  have tw : ∀ M1 : mj_M, F_CoastReader_takeItemsWithout (0 : Int32) (4 : Int32) M1 = some (mj_a M1 5 (va_cpy (fun j => ([20, 63, 0, 1, 0, 3, 2, 4, 2, 0] : List Int32).getD j 0) (M1 5) 0 0 4)) := mk_tw_0
  have eX : ∀ M, mk_qx τ z p M → ∃ M1, mk_qx τ z (p + 1) M1 ∧ (∀ k, k < 4 → M1 5 (0 + k) = nI (mk_tus (0 + k))) ∧ (∀ c, c ≠ 2 → c ≠ 5 → M1 c = M c) ∧ F_CoastReader_readItems N (0 : Int32) (4 : Int32) M = F_CoastReader_readItems_b24 N N (0 : Int32) (4 : Int32) (nI (0 * 2 ^ 0)) (nI (0 + 0)) M1 := by
    intro M h
    have h1 := h.at (p' := p + 1) (by omega)
    refine ⟨mj_a (mj_u M 2 2 (nI (p + 1))) 5 (va_cpy (fun j => ([20, 63, 0, 1, 0, 3, 2, 4, 2, 0] : List Int32).getD j 0) (mj_u M 2 2 (nI (p + 1)) 5) 0 0 4), h1.a5, fun k hk => ?_, fun c h1 h2 => by rw [nw_a9 _ h2, nw_u9 _ h1], ?_⟩
    · rw [nw_ae]
      unfold va_cpy
      rw [if_pos (by omega), show 0 + (0 + k - 0) = 0 + k by omega]
      exact mk_tus_x (0 + k) (by omega)
    · rw [F_CoastReader_readItems]
      simp only [mj_lt]
      rw [h.2.2.1, nI_1, tw, mk_bs]
      rfl
  have eM : ∀ M, mk_qm τ z (p + 1) M → ∃ M1, mk_qm τ z (mk_sq τ z (p + 1)) M1 ∧ (∀ k, k < 4 → M1 59 (b + k) = nI (mk_tus (0 + k))) ∧ mk_fi 59 b 4 M M1 ∧ F_M_items_c59 N (nI 115) (nI b) (4 : Int32) M = F_M_items_c59_b41 N N (nI 115) (nI b) (nI 0) (if mk_kk 0 4 (mk_ch τ z (p + 1)) < 9 then nI (mk_kk 0 4 (mk_ch τ z (p + 1))) else -nI 1) M1 := by
    intro M h
    obtain ⟨M1, x1, x2, x3, x4⟩ := mk_b3_0 (N := N) (p := p + 1) hb 4 0 N M (by omega) (by omega) h (fun k hk => absurd hk (Nat.not_lt_zero _))
    refine ⟨_, x1.at (p' := mk_sq τ z (p + 1)) (by omega), fun k hk => by rw [nw_u9 _ (by omega)]; exact x2 k hk, x3.u (by omega), ?_⟩
    have hl : mk_ch τ z (p + 1) < 256 := mk_c0_lt hz _
    rw [F_M_items_c59, nl_0, x4, x1.pk hN, mk_bs]
    dsimp only
    rw [mk_Mit_0 hl, mk_bs]
    rfl
  rcases mk_Ait_0 hN hz hb 4 0 0 (fun k => mk_tus (0 + k)) (p + 1) N N (by omega) (by omega) (by decide) (by omega) (by omega) (by omega) (fun k hk => by
    have t9 := mk_t99 (0 + k) (by omega)
    exact ⟨t9.2.2.1, t9.2.2.2.1⟩) with ⟨I', p1, p2, b1, b2, b3, b4, b5, b6, b7⟩ | ⟨w, b1, b2, b3⟩
  · refine Or.inl ⟨I', p1, p2, b1, b2, b3, b4, b5, fun M h => ?_, fun M h => ?_⟩
    · obtain ⟨M1, x1, x2, x3, x4⟩ := eX M h
      obtain ⟨M2, x5, x6, x7, x8⟩ := b6 M1 x1 x2
      exact ⟨M2, x4.trans x5, x6, x7, fun c h1 h2 => (x8 c h1 h2).trans (x3 c h1 h2)⟩
    · obtain ⟨M1, x1, x2, x3, x4⟩ := eM M h
      obtain ⟨M2, x5, x6, x7, x8⟩ := b7 M1 x1 x2
      exact ⟨M2, x4.trans x5, x6, x7, x3.tr x8⟩
  · refine Or.inr ⟨w, b1, fun M h => ?_, fun M h => ?_⟩
    · obtain ⟨M1, x1, x2, x3, x4⟩ := eX M h
      obtain ⟨M2, x5, x6, x7, x8⟩ := b2 M1 x1
      exact ⟨M2, x4.trans x5, x6, x7, fun c h1 h2 => (x8 c h1 h2).trans (x3 c h1 h2)⟩
    · obtain ⟨M1, x1, x2, x3, x4⟩ := eM M h
      obtain ⟨M2, x5, x6, x7⟩ := b3 M1 x1
      exact ⟨M2, x4.trans x5, x6, x3.tr x7⟩
theorem mk_Ms_4 {b U k n : Nat} (hb : b + 3 ≤ 18) (hU : U < 8) (hk : k < 3) (hu : nw_b U k = 0) (h : mk_qm τ z p M) : F_M_items_c60_b41 N (n + 1) (nI 104) (nI b) (nI U) (nI k) M = F_M_items_c60_b106 N (F_M_items_c60_b41 N n) (nI 104) (nI b) (nI (U ||| 2 ^ k)) (nI k) (nI (b + k)) (nI (mk_tlo (4 + k))) (mj_u M 48 3 (nI (p + 1))) := by
  have e1 : ((1 : Int32) <<< (nI k &&& 31)) = nI (2 ^ k) := nw_shl (by omega)
  rw [F_M_items_c60_b41, if_pos h.ok, if_neg (mk_nm1 (by omega)), mk_Mhas (by omega) (by omega), mk_bs, hu, if_pos (show nI 0 = (0 : Int32) from rfl)]
  simp only [mj_lt]
  rw [e1, nw_or, nI_add, h.2.2.1, nI_1]
  rw [if_neg (show ¬ nI 104 = (116 : Int32) by decide +kernel), F_M_items_c60_b105]
  have e0 : mk_tlo (4 + k) = 0 := by
    rcases (show k = 0 ∨ k = 1 ∨ k = 2 by omega) with rfl | rfl | rfl <;> rfl
  rw [e0]
  rfl
theorem mk_Ait_4 (hN : 1000 ≤ N) (hz : mk_tp τ z) {b : Nat} (hb : b + 3 ≤ 18) : ∀ d i U (I : Nat → Nat) p n m, i + d = 3 → U < 8 → mk_uc U = i → d < n → d < m → p ≤ z → mk_ib 4 3 I → mk_gi τ z 4 3 60 b I p (fun M => F_CoastReader_readItems_b24 N n (4 : Int32) (7 : Int32) (nI (U * 2 ^ 4)) (nI (4 + i)) M) (fun M => F_M_items_c60_b41 N m (nI 104) (nI b) (nI U) (if mk_kk 4 3 (mk_ch τ z p) < 9 then nI (mk_kk 4 3 (mk_ch τ z p)) else -nI 1) M) := by
  have hz2 := hz.1
  intro d
  induction d with
  | zero =>
    intro i U I p n m hi hU hpc hn hm hp hI
    obtain ⟨n, rfl⟩ : ∃ k, n = k + 1 := ⟨n - 1, by omega⟩
    obtain ⟨m, rfl⟩ : ∃ k, m = k + 1 := ⟨m - 1, by omega⟩
    have hs := mk_sq_in τ z p
    refine Or.inl ⟨I, p, mk_sq τ z p, Nat.le_refl _, hp, by omega, (mk_sq2 τ z p).symm, hI, fun M h hM => ⟨M, ?_, h, hM, fun _ _ _ => rfl⟩, fun M h hM => ⟨M, ?_, h, hM, fun _ _ _ => rfl⟩⟩
    · show F_CoastReader_readItems_b24 N (n + 1) _ _ _ _ M = _
      rw [F_CoastReader_readItems_b24, show i = 3 by omega, if_pos (show (7 : Int32) ≤ nI (4 + 3) by decide +kernel)]
    · show F_M_items_c60_b41 N (m + 1) _ _ _ _ M = _
      rw [F_M_items_c60_b41, if_pos h.ok]
      by_cases k9 : mk_kk 4 3 (mk_ch τ z p) < 9
      · have hkm := (mk_kk9 (show 3 = 3 ∨ 3 = 4 by omega) k9).1
        rw [if_pos k9, if_neg (mk_nm1 (by omega)), mk_Mhas (by omega) (by omega), mk_bs, mk_ua8 U hU (by omega) _ hkm, if_neg (show ¬ nI 1 = (0 : Int32) by decide +kernel)]
      · rw [if_neg k9, if_pos (show -nI 1 = (-1 : Int32) from rfl)]
  | succ d ih =>
    intro i U I p n m hi hU hpc hn hm hp hI
    obtain ⟨n, rfl⟩ : ∃ k, n = k + 1 := ⟨n - 1, by omega⟩
    obtain ⟨m, rfl⟩ : ∃ k, m = k + 1 := ⟨m - 1, by omega⟩
    have hs := mk_sq_in τ z p
    have uw := (mk_us 4 (by omega) U (by omega) 0 (by omega)).2.2
    have t7 : ¬ (7 : Int32) ≤ nI (4 + i) := by rw [nl_7]; exact nI_ge (by omega) (by omega)
    by_cases A : mk_kk 4 3 (mk_ch τ z p) < 9 ∧ nw_b U (mk_kk 4 3 (mk_ch τ z p)) = 0
    · obtain ⟨hkm, hkc⟩ := mk_kk9 (show 3 = 3 ∨ 3 = 4 by omega) A.1
      have hX := fun M (h : mk_qx τ z p M) => mk_Xia_4 hN h hU
      generalize hk : mk_kk 4 3 (mk_ch τ z p) = k at *
      have t9 := mk_t99 (4 + k) (by omega)
      have hlt : mk_sq τ z p < z := by
        have hc0 := mk_c0_0 hz (mk_sq τ z p)
        have : mk_ch τ z p = mk_c0 τ z (mk_sq τ z p) := rfl
        omega
      have us := mk_us 4 (by omega) U (by omega) k (by omega)
      have uU : U ||| 2 ^ k < 8 := (mk_ub8 U hU _ hkm)
      have up := (mk_ub U (by omega) k (by omega) A.2).2
      have uw2 := (mk_us 4 (by omega) (U ||| 2 ^ k) (by omega) 0 (by omega)).2.2
      have e1 : ((1 : Int32) <<< (nI (4 + k) &&& 31)) = nI (2 ^ (4 + k)) := nw_shl (by omega)
      have sX : ∀ M, mk_qx τ z p M → F_CoastReader_readItems_b24 N (n + 1) (4 : Int32) (7 : Int32) (nI (U * 2 ^ 4)) (nI (4 + i)) M = (F_Tape_number N (2 : Int32) (nI (mk_tlo (4 + k))) (nI (mk_thi (4 + k))) (mj_u M 2 2 (nI (mk_sq τ z p + 1)))).bind (fun q8 => F_CoastReader_readItems_b24 N n (4 : Int32) (7 : Int32) (nI ((U ||| 2 ^ k) * 2 ^ 4)) (nI (4 + (i + 1))) (mj_u q8.2 5 (4 + k) q8.1)) := by
        intro M h
        rw [F_CoastReader_readItems_b24, if_neg t7, hX M h, mk_bs, if_pos A]
        dsimp only
        rw [if_neg (mk_nm1 (by omega))]
        simp only [mj_lt]
        rw [mj_u_eq, mj_up_eq, nI_1, mj_uu, nw_ck (show 4 + k < ([0, 0, 0, 0, 0, 0, 0, 1, 0, 0] : List Int32).length by show 4 + k < 10; omega) (by decide), nw_ck (show 4 + k < ([99, 63, 5, 9, 63, 9, 9, 9, 9, 1] : List Int32).length by show 4 + k < 10; omega) (by decide), nI_clamp (by omega), mk_tlo_x _ (by omega), mk_thi_x _ (by omega), e1, nw_or, us.2.1, nI_1]
        congr 1
        funext q8
        rw [nw_ck (by omega) (by omega)]
        rfl
      have sM : ∀ M, mk_qm τ z (mk_sq τ z p) M → F_M_items_c60_b41 N (m + 1) (nI 104) (nI b) (nI U) (nI k) M = (F_M_number N (nI (mk_tlo (4 + k))) (nI (mk_thi (4 + k))) (mj_u M 48 3 (nI (mk_sq τ z p + 1)))).bind (fun q15 => if (mj_u q15.2 60 (b + k) q15.1) 48 4 = (-1 : Int32) then ((F_M_look N (mj_u q15.2 60 (b + k) q15.1)).bind (fun q18 => (F_M_itemOf (nI 104) q18.1 q18.2).bind (fun q19 => F_M_items_c60_b41 N m (nI 104) (nI b) (nI (U ||| 2 ^ k)) q19.1 q19.2))) else (F_M_items_c60_b41 N m (nI 104) (nI b) (nI (U ||| 2 ^ k)) (-1 : Int32) (mj_u q15.2 60 (b + k) q15.1))) := by
        intro M h
        rw [mk_Ms_4 hb hU hkm A.2 h, F_M_items_c60_b106, mk_Mhi_4 hkm, mk_bs]
        dsimp only
        congr 1
        funext q15
        rw [nw_ck (by omega) (by omega), nI_clamp (by omega)]
        rfl
      rcases mk_num2 (p := mk_sq τ z p + 1) hN hz (by omega) t9.1 t9.2.1 with ⟨v, p', a1, a2, a3, a4, a5, a6⟩ | ⟨w, x1, x2, y1, y2, a1, a2, a3⟩
      · have hI1 : mk_ib 4 3 (va_up I k v) := fun j hj => by
          by_cases e : j = k
          · rw [e, mj_up_eq]; exact ⟨a3, a4⟩
          · rw [mj_up_ne _ _ _ e]; exact hI j hj
        have gX : ∀ M, mk_qx τ z p M → ∃ M1, mk_qx τ z p' M1 ∧ ((∀ j, j < 3 → M 5 (4 + j) = nI (I j)) → ∀ j, j < 3 → M1 5 (4 + j) = nI (va_up I k v j)) ∧ (∀ c, c ≠ 2 → c ≠ 5 → M1 c = M c) ∧ F_CoastReader_readItems_b24 N (n + 1) (4 : Int32) (7 : Int32) (nI (U * 2 ^ 4)) (nI (4 + i)) M = F_CoastReader_readItems_b24 N n (4 : Int32) (7 : Int32) (nI ((U ||| 2 ^ k) * 2 ^ 4)) (nI (4 + (i + 1))) M1 := by
          intro M h
          refine ⟨mj_u (mj_u M 2 2 (nI p')) 5 (4 + k) (nI v), (h.at a2).u (by omega), fun hM j hj => ?_, fun c h1 h2 => by rw [nw_u9 _ h2, nw_u9 _ h1], ?_⟩
          · rw [mj_u_eq]
            by_cases e : j = k
            · rw [e, mj_up_eq, mj_up_eq]
            · rw [mj_up_ne _ _ _ (by omega), mj_up_ne _ _ _ e, nw_u9 _ (by omega)]; exact hM j hj
          · rw [sX M h, a5 _ (h.at (by omega)), mk_bs, mj_uu]
        have gM : ∀ M, mk_qm τ z (mk_sq τ z p) M → ∃ M1, mk_qm τ z (mk_sq τ z p') M1 ∧ ((∀ j, j < 3 → M 60 (b + j) = nI (I j)) → ∀ j, j < 3 → M1 60 (b + j) = nI (va_up I k v j)) ∧ mk_fi 60 b 3 M M1 ∧ F_M_items_c60_b41 N (m + 1) (nI 104) (nI b) (nI U) (nI k) M = F_M_items_c60_b41 N m (nI 104) (nI b) (nI (U ||| 2 ^ k)) (if mk_kk 4 3 (mk_ch τ z p') < 9 then nI (mk_kk 4 3 (mk_ch τ z p')) else -nI 1) M1 := by
          intro M h
          have h1 := (h.at a2).u (c := 60) (k := b + k) (x := nI v) (by omega)
          have hs' := mk_sq_in τ z p'
          have hl : mk_ch τ z p' < 256 := mk_c0_lt hz _
          refine ⟨mj_u (mj_u (mj_u M 48 3 (nI p')) 60 (b + k) (nI v)) 48 3 (nI (mk_sq τ z p')), h1.at (by omega), fun hM j hj => ?_, ((mk_fi.rf.u (by omega)).u (by omega)).u (by omega), ?_⟩
          · rw [nw_u9 _ (by omega), mj_u_eq]
            by_cases e : j = k
            · rw [e, mj_up_eq, mj_up_eq]
            · rw [mj_up_ne _ _ _ (by omega), mj_up_ne _ _ _ e, nw_u9 _ (by omega)]; exact hM j hj
          · rw [sM M h, a6 _ (h.at (by omega)), mk_bs, mj_uu]
            dsimp only
            rw [if_pos h1.ok, h1.pk hN, mk_bs]
            dsimp only
            rw [mk_Mit_4 hl, mk_bs]
        rcases ih (i + 1) (U ||| 2 ^ k) (va_up I k v) p' n m (by omega) uU (by omega) (by omega) (by omega) a2 hI1 with ⟨I', p1, p2, b1, b2, b3, b4, b5, b6, b7⟩ | ⟨w, b1, b2, b3⟩
        · refine Or.inl ⟨I', p1, p2, by omega, b2, b3, b4, b5, fun M h hM => ?_, fun M h hM => ?_⟩
          · obtain ⟨M1, x1, x2, x3, x4⟩ := gX M h
            obtain ⟨M2, x5, x6, x7, x8⟩ := b6 M1 x1 (x2 hM)
            exact ⟨M2, x4.trans x5, x6, x7, fun c h1 h2 => (x8 c h1 h2).trans (x3 c h1 h2)⟩
          · obtain ⟨M1, x1, x2, x3, x4⟩ := gM M h
            obtain ⟨M2, x5, x6, x7, x8⟩ := b7 M1 x1 (x2 hM)
            refine ⟨M2, ?_, x6, x7, x3.tr x8⟩
            show F_M_items_c60_b41 N (m + 1) (nI 104) (nI b) (nI U) _ M = _
            rw [if_pos A.1]
            exact x4.trans x5
        · refine Or.inr ⟨w, b1, fun M h => ?_, fun M h => ?_⟩
          · obtain ⟨M1, x1, x2, x3, x4⟩ := gX M h
            obtain ⟨M2, x5, x6, x7, x8⟩ := b2 M1 x1
            exact ⟨M2, x4.trans x5, x6, x7, fun c h1 h2 => (x8 c h1 h2).trans (x3 c h1 h2)⟩
          · obtain ⟨M1, x1, x2, x3, x4⟩ := gM M h
            obtain ⟨M2, x5, x6, x7⟩ := b3 M1 x1
            refine ⟨M2, ?_, x6, x3.tr x7⟩
            show F_M_items_c60_b41 N (m + 1) (nI 104) (nI b) (nI U) _ M = _
            rw [if_pos A.1]
            exact x4.trans x5
      · obtain ⟨n, rfl⟩ : ∃ k, n = k + 1 := ⟨n - 1, by omega⟩
        obtain ⟨m, rfl⟩ : ∃ k, m = k + 1 := ⟨m - 1, by omega⟩
        refine Or.inr ⟨w, a1, fun M h => ?_, fun M h => ?_⟩
        · refine ⟨mj_u (mj_u (mj_u M 2 2 x1) 2 3 (nI w)) 5 (4 + k) y1, ?_, by rw [nw_u9 _ (by omega), mj_u_eq, mj_up_eq], by rw [nw_u9 _ (by omega), mj_u_eq, mj_up_ne _ _ _ (by omega), mj_u_eq, mj_up_ne _ _ _ (by omega)]; exact h.1.2.1, fun c h1 h2 => by rw [nw_u9 _ h2, nw_u9 _ h1, nw_u9 _ h1]⟩
          show F_CoastReader_readItems_b24 N (n + 1 + 1) _ _ _ _ M = _
          rw [sX M h, a2 _ (h.at (by omega)), mk_bs, mj_uu]
          dsimp only
          exact mk_b24f (f := 4) (t := 7) (w := w) hN (by rw [nw_u9 _ (by omega), mj_u_eq, mj_up_eq]) (by omega) uw2 (by omega) (by omega) _
        · have e4 : mj_u (mj_u (mj_u M 48 3 x2) 48 4 (nI w)) 60 (b + k) y2 48 4 = nI w := by rw [nw_u9 _ (by omega), mj_u_eq, mj_up_eq]
          refine ⟨mj_u (mj_u (mj_u M 48 3 x2) 48 4 (nI w)) 60 (b + k) y2, ?_, e4, ((mk_fi.rf.u (by omega)).u (by omega)).u (by omega)⟩
          show F_M_items_c60_b41 N (m + 1 + 1) (nI 104) (nI b) (nI U) _ M = _
          rw [if_pos A.1, sM M h, a3 _ (h.at (by omega)), mk_bs, mj_uu]
          dsimp only
          have e5 : ¬ mj_u (mj_u (mj_u M 48 3 x2) 48 4 (nI w)) 60 (b + k) y2 48 4 = (-1 : Int32) := by rw [e4]; exact mk_nm1 (by omega)
          rw [if_neg e5, F_M_items_c60_b41, if_neg e5]
    · refine Or.inl ⟨I, mk_sq τ z p, mk_sq τ z p, by omega, by omega, by omega, rfl, hI, fun M h hM => ⟨mj_u M 2 2 (nI (mk_sq τ z p)), ?_, h.at (by omega), fun j hj => by rw [nw_u9 _ (by omega)]; exact hM j hj, fun c h1 _ => nw_u9 _ h1⟩, fun M h hM => ⟨M, ?_, h, hM, mk_fi.rf⟩⟩
      · show F_CoastReader_readItems_b24 N (n + 1) _ _ _ _ M = _
        rw [F_CoastReader_readItems_b24, if_neg t7, mk_Xia_4 hN h hU, mk_bs, if_neg A]
        dsimp only
        rw [if_pos (show -nI 1 = (-1 : Int32) from rfl)]
      · show F_M_items_c60_b41 N (m + 1) _ _ _ _ M = _
        rw [F_M_items_c60_b41, if_pos h.ok]
        by_cases k9 : mk_kk 4 3 (mk_ch τ z p) < 9
        · have hkm := (mk_kk9 (show 3 = 3 ∨ 3 = 4 by omega) k9).1
          have b2 := nw_b2 U (mk_kk 4 3 (mk_ch τ z p))
          have b1 : nw_b U (mk_kk 4 3 (mk_ch τ z p)) = 1 := by
            have : ¬ nw_b U (mk_kk 4 3 (mk_ch τ z p)) = 0 := fun e => A ⟨k9, e⟩
            omega
          rw [if_pos k9, if_neg (mk_nm1 (by omega)), mk_Mhas (by omega) (by omega), mk_bs, b1, if_neg (show ¬ nI 1 = (0 : Int32) by decide +kernel)]
        · rw [if_neg k9, if_pos (show -nI 1 = (-1 : Int32) from rfl)]
theorem mk_b3_4 {b : Nat} (hb : b + 3 ≤ 18) : ∀ d i n (M : mj_M), i + d = 3 → d < n → mk_qm τ z p M → (∀ k, k < i → M 60 (b + k) = nI (mk_tus (4 + k))) → ∃ M', mk_qm τ z p M' ∧ (∀ k, k < 3 → M' 60 (b + k) = nI (mk_tus (4 + k))) ∧ mk_fi 60 b 3 M M' ∧ F_M_items_c60_b3 N n (nI 104) (nI b) (3 : Int32) (nI i) M = (F_M_look N M').bind (fun q2 => (F_M_itemOf (nI 104) q2.1 q2.2).bind (fun q3 => F_M_items_c60_b41 N N (nI 104) (nI b) (0 : Int32) q3.1 q3.2)) := by
  intro d
  induction d with
  | zero =>
    intro i n M hi hn h hM
    obtain ⟨n, rfl⟩ : ∃ k, n = k + 1 := ⟨n - 1, by omega⟩
    refine ⟨M, h, fun k hk => hM k (by omega), mk_fi.rf, ?_⟩
    rw [F_M_items_c60_b3, show i = 3 by omega, if_pos (show (3 : Int32) ≤ nI 3 by decide +kernel)]
  | succ d ih =>
    intro i n M hi hn h hM
    obtain ⟨n, rfl⟩ : ∃ k, n = k + 1 := ⟨n - 1, by omega⟩
    obtain ⟨M', x1, x2, x3, x4⟩ := ih (i + 1) n (mj_u M 60 (b + i) (nI (mk_tus (4 + i)))) (by omega) (by omega) (h.u (by omega)) (fun k hk => by
      rw [mj_u_eq]
      by_cases e : k = i
      · rw [e, mj_up_eq]
      · rw [mj_up_ne _ _ _ (by omega)]; exact hM k (by omega))
    refine ⟨M', x1, x2, (mk_fi.rf.u (by omega)).tr x3, ?_⟩
    rw [F_M_items_c60_b3, nl_3, if_neg (nI_ge (by omega) (by omega)), mk_Mus_4 (by omega), mk_bs]
    simp only [mj_lt]
    rw [nI_add, nw_ck (by omega) (by omega), nI_clamp (by omega), nI_1]
    exact x4
theorem mk_tw_4 (M1 : mj_M) : F_CoastReader_takeItemsWithout (4 : Int32) (7 : Int32) M1 = some (mj_a M1 5 (va_cpy (fun j => ([20, 63, 0, 1, 0, 3, 2, 4, 2, 0] : List Int32).getD j 0) (M1 5) 4 4 3)) := by
  have e1 : ((7 : Int32) - (4 : Int32)).toNatClampNeg = 3 := by decide +kernel
  have e2 : (4 : Int32).toNatClampNeg = 4 := by decide +kernel
  have e3 : (7 : Int32) - (4 : Int32) = nI 3 := by decide +kernel
  unfold F_CoastReader_takeItemsWithout
  rw [e1, e2]
  simp only [mj_lt]
  rw [e3]
  exact nw_ac (a := 4) (b := 4) (c := 3) (by decide) (by omega) (by decide) (by omega)
theorem mk_Ard_4 (hN : 1000 ≤ N) (hz : mk_tp τ z) {b : Nat} (hb : b + 3 ≤ 18) (hp : p < z) :
    (∃ I' p1 p2, p + 1 ≤ p1 ∧ p1 ≤ z ∧ p2 ≤ z ∧ mk_sq τ z p1 = mk_sq τ z p2 ∧ mk_ib 4 3 I' ∧ (∀ M, mk_qx τ z p M → ∃ M', F_CoastReader_readItems N (4 : Int32) (7 : Int32) M = some M' ∧ mk_qx τ z p1 M' ∧ (∀ k, k < 3 → M' 5 (4 + k) = nI (I' k)) ∧ (∀ c, c ≠ 2 → c ≠ 5 → M' c = M c)) ∧ (∀ M, mk_qm τ z (p + 1) M → ∃ M', F_M_items_c60 N (nI 104) (nI b) (3 : Int32) M = some M' ∧ mk_qm τ z p2 M' ∧ (∀ k, k < 3 → M' 60 (b + k) = nI (I' k)) ∧ mk_fi 60 b 3 M M'))
    ∨ (∃ w, w ≤ z ∧ (∀ M, mk_qx τ z p M → ∃ M', F_CoastReader_readItems N (4 : Int32) (7 : Int32) M = some M' ∧ M' 2 3 = nI w ∧ M' 2 1 = nI z ∧ (∀ c, c ≠ 2 → c ≠ 5 → M' c = M c)) ∧ (∀ M, mk_qm τ z (p + 1) M → ∃ M', F_M_items_c60 N (nI 104) (nI b) (3 : Int32) M = some M' ∧ M' 48 4 = nI w ∧ mk_fi 60 b 3 M M')) := by
  have hs := mk_sq_in τ z (p + 1)
  have tw : ∀ M1 : mj_M, F_CoastReader_takeItemsWithout (4 : Int32) (7 : Int32) M1 = some (mj_a M1 5 (va_cpy (fun j => ([20, 63, 0, 1, 0, 3, 2, 4, 2, 0] : List Int32).getD j 0) (M1 5) 4 4 3)) := mk_tw_4
  have eX : ∀ M, mk_qx τ z p M → ∃ M1, mk_qx τ z (p + 1) M1 ∧ (∀ k, k < 3 → M1 5 (4 + k) = nI (mk_tus (4 + k))) ∧ (∀ c, c ≠ 2 → c ≠ 5 → M1 c = M c) ∧ F_CoastReader_readItems N (4 : Int32) (7 : Int32) M = F_CoastReader_readItems_b24 N N (4 : Int32) (7 : Int32) (nI (0 * 2 ^ 4)) (nI (4 + 0)) M1 := by
    intro M h
    have h1 := h.at (p' := p + 1) (by omega)
    refine ⟨mj_a (mj_u M 2 2 (nI (p + 1))) 5 (va_cpy (fun j => ([20, 63, 0, 1, 0, 3, 2, 4, 2, 0] : List Int32).getD j 0) (mj_u M 2 2 (nI (p + 1)) 5) 4 4 3), h1.a5, fun k hk => ?_, fun c h1 h2 => by rw [nw_a9 _ h2, nw_u9 _ h1], ?_⟩
    · rw [nw_ae]
      unfold va_cpy
      rw [if_pos (by omega), show 4 + (4 + k - 4) = 4 + k by omega]
      exact mk_tus_x (4 + k) (by omega)
    · rw [F_CoastReader_readItems]
      simp only [mj_lt]
      rw [h.2.2.1, nI_1, tw, mk_bs]
      rfl
  have eM : ∀ M, mk_qm τ z (p + 1) M → ∃ M1, mk_qm τ z (mk_sq τ z (p + 1)) M1 ∧ (∀ k, k < 3 → M1 60 (b + k) = nI (mk_tus (4 + k))) ∧ mk_fi 60 b 3 M M1 ∧ F_M_items_c60 N (nI 104) (nI b) (3 : Int32) M = F_M_items_c60_b41 N N (nI 104) (nI b) (nI 0) (if mk_kk 4 3 (mk_ch τ z (p + 1)) < 9 then nI (mk_kk 4 3 (mk_ch τ z (p + 1))) else -nI 1) M1 := by
    intro M h
    obtain ⟨M1, x1, x2, x3, x4⟩ := mk_b3_4 (N := N) (p := p + 1) hb 3 0 N M (by omega) (by omega) h (fun k hk => absurd hk (Nat.not_lt_zero _))
    refine ⟨_, x1.at (p' := mk_sq τ z (p + 1)) (by omega), fun k hk => by rw [nw_u9 _ (by omega)]; exact x2 k hk, x3.u (by omega), ?_⟩
    have hl : mk_ch τ z (p + 1) < 256 := mk_c0_lt hz _
    rw [F_M_items_c60, nl_0, x4, x1.pk hN, mk_bs]
    dsimp only
    rw [mk_Mit_4 hl, mk_bs]
    rfl
  rcases mk_Ait_4 hN hz hb 3 0 0 (fun k => mk_tus (4 + k)) (p + 1) N N (by omega) (by omega) (by decide) (by omega) (by omega) (by omega) (fun k hk => by
    have t9 := mk_t99 (4 + k) (by omega)
    exact ⟨t9.2.2.1, t9.2.2.2.1⟩) with ⟨I', p1, p2, b1, b2, b3, b4, b5, b6, b7⟩ | ⟨w, b1, b2, b3⟩
  · refine Or.inl ⟨I', p1, p2, b1, b2, b3, b4, b5, fun M h => ?_, fun M h => ?_⟩
    · obtain ⟨M1, x1, x2, x3, x4⟩ := eX M h
      obtain ⟨M2, x5, x6, x7, x8⟩ := b6 M1 x1 x2
      exact ⟨M2, x4.trans x5, x6, x7, fun c h1 h2 => (x8 c h1 h2).trans (x3 c h1 h2)⟩
    · obtain ⟨M1, x1, x2, x3, x4⟩ := eM M h
      obtain ⟨M2, x5, x6, x7, x8⟩ := b7 M1 x1 x2
      exact ⟨M2, x4.trans x5, x6, x7, x3.tr x8⟩
  · refine Or.inr ⟨w, b1, fun M h => ?_, fun M h => ?_⟩
    · obtain ⟨M1, x1, x2, x3, x4⟩ := eX M h
      obtain ⟨M2, x5, x6, x7, x8⟩ := b2 M1 x1
      exact ⟨M2, x4.trans x5, x6, x7, fun c h1 h2 => (x8 c h1 h2).trans (x3 c h1 h2)⟩
    · obtain ⟨M1, x1, x2, x3, x4⟩ := eM M h
      obtain ⟨M2, x5, x6, x7⟩ := b3 M1 x1
      exact ⟨M2, x4.trans x5, x6, x3.tr x7⟩
theorem mk_Ms_7 {b U k n : Nat} (hb : b + 3 ≤ 18) (hU : U < 8) (hk : k < 3) (hu : nw_b U k = 0) (h : mk_qm τ z p M) : F_M_items_c61_b41 N (n + 1) (nI 116) (nI b) (nI U) (nI k) M = F_M_items_c61_b106 N (F_M_items_c61_b41 N n) (nI 116) (nI b) (nI (U ||| 2 ^ k)) (nI k) (nI (b + k)) (nI (mk_tlo (7 + k))) (mj_u M 48 3 (nI (p + 1))) := by
  have e1 : ((1 : Int32) <<< (nI k &&& 31)) = nI (2 ^ k) := nw_shl (by omega)
  rw [F_M_items_c61_b41, if_pos h.ok, if_neg (mk_nm1 (by omega)), mk_Mhas (by omega) (by omega), mk_bs, hu, if_pos (show nI 0 = (0 : Int32) from rfl)]
  simp only [mj_lt]
  rw [e1, nw_or, nI_add, h.2.2.1, nI_1]
  rw [if_pos (show nI 116 = (116 : Int32) from rfl)]
  rcases (show k = 0 ∨ k = 1 ∨ k = 2 by omega) with rfl | rfl | rfl
  · rw [if_pos (show nI 0 = (0 : Int32) from rfl)]
    rfl
  · rw [if_neg (show ¬ nI 1 = (0 : Int32) by decide +kernel)]
    rfl
  · rw [if_neg (show ¬ nI 2 = (0 : Int32) by decide +kernel)]
    rfl
theorem mk_Ait_7 (hN : 1000 ≤ N) (hz : mk_tp τ z) {b : Nat} (hb : b + 3 ≤ 18) : ∀ d i U (I : Nat → Nat) p n m, i + d = 3 → U < 8 → mk_uc U = i → d < n → d < m → p ≤ z → mk_ib 7 3 I → mk_gi τ z 7 3 61 b I p (fun M => F_CoastReader_readItems_b24 N n (7 : Int32) (10 : Int32) (nI (U * 2 ^ 7)) (nI (7 + i)) M) (fun M => F_M_items_c61_b41 N m (nI 116) (nI b) (nI U) (if mk_kk 7 3 (mk_ch τ z p) < 9 then nI (mk_kk 7 3 (mk_ch τ z p)) else -nI 1) M) := by
  have hz2 := hz.1
  intro d
  induction d with
  | zero =>
    intro i U I p n m hi hU hpc hn hm hp hI
    obtain ⟨n, rfl⟩ : ∃ k, n = k + 1 := ⟨n - 1, by omega⟩
    obtain ⟨m, rfl⟩ : ∃ k, m = k + 1 := ⟨m - 1, by omega⟩
    have hs := mk_sq_in τ z p
    refine Or.inl ⟨I, p, mk_sq τ z p, Nat.le_refl _, hp, by omega, (mk_sq2 τ z p).symm, hI, fun M h hM => ⟨M, ?_, h, hM, fun _ _ _ => rfl⟩, fun M h hM => ⟨M, ?_, h, hM, fun _ _ _ => rfl⟩⟩
    · show F_CoastReader_readItems_b24 N (n + 1) _ _ _ _ M = _
      rw [F_CoastReader_readItems_b24, show i = 3 by omega, if_pos (show (10 : Int32) ≤ nI (7 + 3) by decide +kernel)]
    · show F_M_items_c61_b41 N (m + 1) _ _ _ _ M = _
      rw [F_M_items_c61_b41, if_pos h.ok]
      by_cases k9 : mk_kk 7 3 (mk_ch τ z p) < 9
      · have hkm := (mk_kk9 (show 3 = 3 ∨ 3 = 4 by omega) k9).1
        rw [if_pos k9, if_neg (mk_nm1 (by omega)), mk_Mhas (by omega) (by omega), mk_bs, mk_ua8 U hU (by omega) _ hkm, if_neg (show ¬ nI 1 = (0 : Int32) by decide +kernel)]
      · rw [if_neg k9, if_pos (show -nI 1 = (-1 : Int32) from rfl)]
  | succ d ih =>
    intro i U I p n m hi hU hpc hn hm hp hI
    obtain ⟨n, rfl⟩ : ∃ k, n = k + 1 := ⟨n - 1, by omega⟩
    obtain ⟨m, rfl⟩ : ∃ k, m = k + 1 := ⟨m - 1, by omega⟩
    have hs := mk_sq_in τ z p
    have uw := (mk_us 7 (by omega) U (by omega) 0 (by omega)).2.2
    have t7 : ¬ (10 : Int32) ≤ nI (7 + i) := by rw [nl_10]; exact nI_ge (by omega) (by omega)
    by_cases A : mk_kk 7 3 (mk_ch τ z p) < 9 ∧ nw_b U (mk_kk 7 3 (mk_ch τ z p)) = 0
    · obtain ⟨hkm, hkc⟩ := mk_kk9 (show 3 = 3 ∨ 3 = 4 by omega) A.1
      have hX := fun M (h : mk_qx τ z p M) => mk_Xia_7 hN h hU
      generalize hk : mk_kk 7 3 (mk_ch τ z p) = k at *
      have t9 := mk_t99 (7 + k) (by omega)
      have hlt : mk_sq τ z p < z := by
        have hc0 := mk_c0_0 hz (mk_sq τ z p)
        have : mk_ch τ z p = mk_c0 τ z (mk_sq τ z p) := rfl
        omega
      have us := mk_us 7 (by omega) U (by omega) k (by omega)
      have uU : U ||| 2 ^ k < 8 := (mk_ub8 U hU _ hkm)
      have up := (mk_ub U (by omega) k (by omega) A.2).2
      have uw2 := (mk_us 7 (by omega) (U ||| 2 ^ k) (by omega) 0 (by omega)).2.2
      have e1 : ((1 : Int32) <<< (nI (7 + k) &&& 31)) = nI (2 ^ (7 + k)) := nw_shl (by omega)
      have sX : ∀ M, mk_qx τ z p M → F_CoastReader_readItems_b24 N (n + 1) (7 : Int32) (10 : Int32) (nI (U * 2 ^ 7)) (nI (7 + i)) M = (F_Tape_number N (2 : Int32) (nI (mk_tlo (7 + k))) (nI (mk_thi (7 + k))) (mj_u M 2 2 (nI (mk_sq τ z p + 1)))).bind (fun q8 => F_CoastReader_readItems_b24 N n (7 : Int32) (10 : Int32) (nI ((U ||| 2 ^ k) * 2 ^ 7)) (nI (7 + (i + 1))) (mj_u q8.2 5 (7 + k) q8.1)) := by
        intro M h
        rw [F_CoastReader_readItems_b24, if_neg t7, hX M h, mk_bs, if_pos A]
        dsimp only
        rw [if_neg (mk_nm1 (by omega))]
        simp only [mj_lt]
        rw [mj_u_eq, mj_up_eq, nI_1, mj_uu, nw_ck (show 7 + k < ([0, 0, 0, 0, 0, 0, 0, 1, 0, 0] : List Int32).length by show 7 + k < 10; omega) (by decide), nw_ck (show 7 + k < ([99, 63, 5, 9, 63, 9, 9, 9, 9, 1] : List Int32).length by show 7 + k < 10; omega) (by decide), nI_clamp (by omega), mk_tlo_x _ (by omega), mk_thi_x _ (by omega), e1, nw_or, us.2.1, nI_1]
        congr 1
        funext q8
        rw [nw_ck (by omega) (by omega)]
        rfl
      have sM : ∀ M, mk_qm τ z (mk_sq τ z p) M → F_M_items_c61_b41 N (m + 1) (nI 116) (nI b) (nI U) (nI k) M = (F_M_number N (nI (mk_tlo (7 + k))) (nI (mk_thi (7 + k))) (mj_u M 48 3 (nI (mk_sq τ z p + 1)))).bind (fun q15 => if (mj_u q15.2 61 (b + k) q15.1) 48 4 = (-1 : Int32) then ((F_M_look N (mj_u q15.2 61 (b + k) q15.1)).bind (fun q18 => (F_M_itemOf (nI 116) q18.1 q18.2).bind (fun q19 => F_M_items_c61_b41 N m (nI 116) (nI b) (nI (U ||| 2 ^ k)) q19.1 q19.2))) else (F_M_items_c61_b41 N m (nI 116) (nI b) (nI (U ||| 2 ^ k)) (-1 : Int32) (mj_u q15.2 61 (b + k) q15.1))) := by
        intro M h
        rw [mk_Ms_7 hb hU hkm A.2 h, F_M_items_c61_b106, mk_Mhi_7 hkm, mk_bs]
        dsimp only
        congr 1
        funext q15
        rw [nw_ck (by omega) (by omega), nI_clamp (by omega)]
        rfl
      rcases mk_num2 (p := mk_sq τ z p + 1) hN hz (by omega) t9.1 t9.2.1 with ⟨v, p', a1, a2, a3, a4, a5, a6⟩ | ⟨w, x1, x2, y1, y2, a1, a2, a3⟩
      · have hI1 : mk_ib 7 3 (va_up I k v) := fun j hj => by
          by_cases e : j = k
          · rw [e, mj_up_eq]; exact ⟨a3, a4⟩
          · rw [mj_up_ne _ _ _ e]; exact hI j hj
        have gX : ∀ M, mk_qx τ z p M → ∃ M1, mk_qx τ z p' M1 ∧ ((∀ j, j < 3 → M 5 (7 + j) = nI (I j)) → ∀ j, j < 3 → M1 5 (7 + j) = nI (va_up I k v j)) ∧ (∀ c, c ≠ 2 → c ≠ 5 → M1 c = M c) ∧ F_CoastReader_readItems_b24 N (n + 1) (7 : Int32) (10 : Int32) (nI (U * 2 ^ 7)) (nI (7 + i)) M = F_CoastReader_readItems_b24 N n (7 : Int32) (10 : Int32) (nI ((U ||| 2 ^ k) * 2 ^ 7)) (nI (7 + (i + 1))) M1 := by
          intro M h
          refine ⟨mj_u (mj_u M 2 2 (nI p')) 5 (7 + k) (nI v), (h.at a2).u (by omega), fun hM j hj => ?_, fun c h1 h2 => by rw [nw_u9 _ h2, nw_u9 _ h1], ?_⟩
          · rw [mj_u_eq]
            by_cases e : j = k
            · rw [e, mj_up_eq, mj_up_eq]
            · rw [mj_up_ne _ _ _ (by omega), mj_up_ne _ _ _ e, nw_u9 _ (by omega)]; exact hM j hj
          · rw [sX M h, a5 _ (h.at (by omega)), mk_bs, mj_uu]
        have gM : ∀ M, mk_qm τ z (mk_sq τ z p) M → ∃ M1, mk_qm τ z (mk_sq τ z p') M1 ∧ ((∀ j, j < 3 → M 61 (b + j) = nI (I j)) → ∀ j, j < 3 → M1 61 (b + j) = nI (va_up I k v j)) ∧ mk_fi 61 b 3 M M1 ∧ F_M_items_c61_b41 N (m + 1) (nI 116) (nI b) (nI U) (nI k) M = F_M_items_c61_b41 N m (nI 116) (nI b) (nI (U ||| 2 ^ k)) (if mk_kk 7 3 (mk_ch τ z p') < 9 then nI (mk_kk 7 3 (mk_ch τ z p')) else -nI 1) M1 := by
          intro M h
          have h1 := (h.at a2).u (c := 61) (k := b + k) (x := nI v) (by omega)
          have hs' := mk_sq_in τ z p'
          have hl : mk_ch τ z p' < 256 := mk_c0_lt hz _
          refine ⟨mj_u (mj_u (mj_u M 48 3 (nI p')) 61 (b + k) (nI v)) 48 3 (nI (mk_sq τ z p')), h1.at (by omega), fun hM j hj => ?_, ((mk_fi.rf.u (by omega)).u (by omega)).u (by omega), ?_⟩
          · rw [nw_u9 _ (by omega), mj_u_eq]
            by_cases e : j = k
            · rw [e, mj_up_eq, mj_up_eq]
            · rw [mj_up_ne _ _ _ (by omega), mj_up_ne _ _ _ e, nw_u9 _ (by omega)]; exact hM j hj
          · rw [sM M h, a6 _ (h.at (by omega)), mk_bs, mj_uu]
            dsimp only
            rw [if_pos h1.ok, h1.pk hN, mk_bs]
            dsimp only
            rw [mk_Mit_7 hl, mk_bs]
        rcases ih (i + 1) (U ||| 2 ^ k) (va_up I k v) p' n m (by omega) uU (by omega) (by omega) (by omega) a2 hI1 with ⟨I', p1, p2, b1, b2, b3, b4, b5, b6, b7⟩ | ⟨w, b1, b2, b3⟩
        · refine Or.inl ⟨I', p1, p2, by omega, b2, b3, b4, b5, fun M h hM => ?_, fun M h hM => ?_⟩
          · obtain ⟨M1, x1, x2, x3, x4⟩ := gX M h
            obtain ⟨M2, x5, x6, x7, x8⟩ := b6 M1 x1 (x2 hM)
            exact ⟨M2, x4.trans x5, x6, x7, fun c h1 h2 => (x8 c h1 h2).trans (x3 c h1 h2)⟩
          · obtain ⟨M1, x1, x2, x3, x4⟩ := gM M h
            obtain ⟨M2, x5, x6, x7, x8⟩ := b7 M1 x1 (x2 hM)
            refine ⟨M2, ?_, x6, x7, x3.tr x8⟩
            show F_M_items_c61_b41 N (m + 1) (nI 116) (nI b) (nI U) _ M = _
            rw [if_pos A.1]
            exact x4.trans x5
        · refine Or.inr ⟨w, b1, fun M h => ?_, fun M h => ?_⟩
          · obtain ⟨M1, x1, x2, x3, x4⟩ := gX M h
            obtain ⟨M2, x5, x6, x7, x8⟩ := b2 M1 x1
            exact ⟨M2, x4.trans x5, x6, x7, fun c h1 h2 => (x8 c h1 h2).trans (x3 c h1 h2)⟩
          · obtain ⟨M1, x1, x2, x3, x4⟩ := gM M h
            obtain ⟨M2, x5, x6, x7⟩ := b3 M1 x1
            refine ⟨M2, ?_, x6, x3.tr x7⟩
            show F_M_items_c61_b41 N (m + 1) (nI 116) (nI b) (nI U) _ M = _
            rw [if_pos A.1]
            exact x4.trans x5
      · obtain ⟨n, rfl⟩ : ∃ k, n = k + 1 := ⟨n - 1, by omega⟩
        obtain ⟨m, rfl⟩ : ∃ k, m = k + 1 := ⟨m - 1, by omega⟩
        refine Or.inr ⟨w, a1, fun M h => ?_, fun M h => ?_⟩
        · refine ⟨mj_u (mj_u (mj_u M 2 2 x1) 2 3 (nI w)) 5 (7 + k) y1, ?_, by rw [nw_u9 _ (by omega), mj_u_eq, mj_up_eq], by rw [nw_u9 _ (by omega), mj_u_eq, mj_up_ne _ _ _ (by omega), mj_u_eq, mj_up_ne _ _ _ (by omega)]; exact h.1.2.1, fun c h1 h2 => by rw [nw_u9 _ h2, nw_u9 _ h1, nw_u9 _ h1]⟩
          show F_CoastReader_readItems_b24 N (n + 1 + 1) _ _ _ _ M = _
          rw [sX M h, a2 _ (h.at (by omega)), mk_bs, mj_uu]
          dsimp only
          exact mk_b24f (f := 7) (t := 10) (w := w) hN (by rw [nw_u9 _ (by omega), mj_u_eq, mj_up_eq]) (by omega) uw2 (by omega) (by omega) _
        · have e4 : mj_u (mj_u (mj_u M 48 3 x2) 48 4 (nI w)) 61 (b + k) y2 48 4 = nI w := by rw [nw_u9 _ (by omega), mj_u_eq, mj_up_eq]
          refine ⟨mj_u (mj_u (mj_u M 48 3 x2) 48 4 (nI w)) 61 (b + k) y2, ?_, e4, ((mk_fi.rf.u (by omega)).u (by omega)).u (by omega)⟩
          show F_M_items_c61_b41 N (m + 1 + 1) (nI 116) (nI b) (nI U) _ M = _
          rw [if_pos A.1, sM M h, a3 _ (h.at (by omega)), mk_bs, mj_uu]
          dsimp only
          have e5 : ¬ mj_u (mj_u (mj_u M 48 3 x2) 48 4 (nI w)) 61 (b + k) y2 48 4 = (-1 : Int32) := by rw [e4]; exact mk_nm1 (by omega)
          rw [if_neg e5, F_M_items_c61_b41, if_neg e5]
    · refine Or.inl ⟨I, mk_sq τ z p, mk_sq τ z p, by omega, by omega, by omega, rfl, hI, fun M h hM => ⟨mj_u M 2 2 (nI (mk_sq τ z p)), ?_, h.at (by omega), fun j hj => by rw [nw_u9 _ (by omega)]; exact hM j hj, fun c h1 _ => nw_u9 _ h1⟩, fun M h hM => ⟨M, ?_, h, hM, mk_fi.rf⟩⟩
      · show F_CoastReader_readItems_b24 N (n + 1) _ _ _ _ M = _
        rw [F_CoastReader_readItems_b24, if_neg t7, mk_Xia_7 hN h hU, mk_bs, if_neg A]
        dsimp only
        rw [if_pos (show -nI 1 = (-1 : Int32) from rfl)]
      · show F_M_items_c61_b41 N (m + 1) _ _ _ _ M = _
        rw [F_M_items_c61_b41, if_pos h.ok]
        by_cases k9 : mk_kk 7 3 (mk_ch τ z p) < 9
        · have hkm := (mk_kk9 (show 3 = 3 ∨ 3 = 4 by omega) k9).1
          have b2 := nw_b2 U (mk_kk 7 3 (mk_ch τ z p))
          have b1 : nw_b U (mk_kk 7 3 (mk_ch τ z p)) = 1 := by
            have : ¬ nw_b U (mk_kk 7 3 (mk_ch τ z p)) = 0 := fun e => A ⟨k9, e⟩
            omega
          rw [if_pos k9, if_neg (mk_nm1 (by omega)), mk_Mhas (by omega) (by omega), mk_bs, b1, if_neg (show ¬ nI 1 = (0 : Int32) by decide +kernel)]
        · rw [if_neg k9, if_pos (show -nI 1 = (-1 : Int32) from rfl)]
theorem mk_b3_7 {b : Nat} (hb : b + 3 ≤ 18) : ∀ d i n (M : mj_M), i + d = 3 → d < n → mk_qm τ z p M → (∀ k, k < i → M 61 (b + k) = nI (mk_tus (7 + k))) → ∃ M', mk_qm τ z p M' ∧ (∀ k, k < 3 → M' 61 (b + k) = nI (mk_tus (7 + k))) ∧ mk_fi 61 b 3 M M' ∧ F_M_items_c61_b3 N n (nI 116) (nI b) (3 : Int32) (nI i) M = (F_M_look N M').bind (fun q2 => (F_M_itemOf (nI 116) q2.1 q2.2).bind (fun q3 => F_M_items_c61_b41 N N (nI 116) (nI b) (0 : Int32) q3.1 q3.2)) := by
  intro d
  induction d with
  | zero =>
    intro i n M hi hn h hM
    obtain ⟨n, rfl⟩ : ∃ k, n = k + 1 := ⟨n - 1, by omega⟩
    refine ⟨M, h, fun k hk => hM k (by omega), mk_fi.rf, ?_⟩
    rw [F_M_items_c61_b3, show i = 3 by omega, if_pos (show (3 : Int32) ≤ nI 3 by decide +kernel)]
  | succ d ih =>
    intro i n M hi hn h hM
    obtain ⟨n, rfl⟩ : ∃ k, n = k + 1 := ⟨n - 1, by omega⟩
    obtain ⟨M', x1, x2, x3, x4⟩ := ih (i + 1) n (mj_u M 61 (b + i) (nI (mk_tus (7 + i)))) (by omega) (by omega) (h.u (by omega)) (fun k hk => by
      rw [mj_u_eq]
      by_cases e : k = i
      · rw [e, mj_up_eq]
      · rw [mj_up_ne _ _ _ (by omega)]; exact hM k (by omega))
    refine ⟨M', x1, x2, (mk_fi.rf.u (by omega)).tr x3, ?_⟩
    rw [F_M_items_c61_b3, nl_3, if_neg (nI_ge (by omega) (by omega)), mk_Mus_7 (by omega), mk_bs]
    simp only [mj_lt]
    rw [nI_add, nw_ck (by omega) (by omega), nI_clamp (by omega), nI_1]
    exact x4
theorem mk_tw_7 (M1 : mj_M) : F_CoastReader_takeItemsWithout (7 : Int32) (10 : Int32) M1 = some (mj_a M1 5 (va_cpy (fun j => ([20, 63, 0, 1, 0, 3, 2, 4, 2, 0] : List Int32).getD j 0) (M1 5) 7 7 3)) := by
  have e1 : ((10 : Int32) - (7 : Int32)).toNatClampNeg = 3 := by decide +kernel
  have e2 : (7 : Int32).toNatClampNeg = 7 := by decide +kernel
  have e3 : (10 : Int32) - (7 : Int32) = nI 3 := by decide +kernel
  unfold F_CoastReader_takeItemsWithout
  rw [e1, e2]
  simp only [mj_lt]
  rw [e3]
  exact nw_ac (a := 7) (b := 7) (c := 3) (by decide) (by omega) (by decide) (by omega)
theorem mk_Ard_7 (hN : 1000 ≤ N) (hz : mk_tp τ z) {b : Nat} (hb : b + 3 ≤ 18) (hp : p < z) :
    (∃ I' p1 p2, p + 1 ≤ p1 ∧ p1 ≤ z ∧ p2 ≤ z ∧ mk_sq τ z p1 = mk_sq τ z p2 ∧ mk_ib 7 3 I' ∧ (∀ M, mk_qx τ z p M → ∃ M', F_CoastReader_readItems N (7 : Int32) (10 : Int32) M = some M' ∧ mk_qx τ z p1 M' ∧ (∀ k, k < 3 → M' 5 (7 + k) = nI (I' k)) ∧ (∀ c, c ≠ 2 → c ≠ 5 → M' c = M c)) ∧ (∀ M, mk_qm τ z (p + 1) M → ∃ M', F_M_items_c61 N (nI 116) (nI b) (3 : Int32) M = some M' ∧ mk_qm τ z p2 M' ∧ (∀ k, k < 3 → M' 61 (b + k) = nI (I' k)) ∧ mk_fi 61 b 3 M M'))
    ∨ (∃ w, w ≤ z ∧ (∀ M, mk_qx τ z p M → ∃ M', F_CoastReader_readItems N (7 : Int32) (10 : Int32) M = some M' ∧ M' 2 3 = nI w ∧ M' 2 1 = nI z ∧ (∀ c, c ≠ 2 → c ≠ 5 → M' c = M c)) ∧ (∀ M, mk_qm τ z (p + 1) M → ∃ M', F_M_items_c61 N (nI 116) (nI b) (3 : Int32) M = some M' ∧ M' 48 4 = nI w ∧ mk_fi 61 b 3 M M')) := by
  have hs := mk_sq_in τ z (p + 1)
  have tw : ∀ M1 : mj_M, F_CoastReader_takeItemsWithout (7 : Int32) (10 : Int32) M1 = some (mj_a M1 5 (va_cpy (fun j => ([20, 63, 0, 1, 0, 3, 2, 4, 2, 0] : List Int32).getD j 0) (M1 5) 7 7 3)) := mk_tw_7
  have eX : ∀ M, mk_qx τ z p M → ∃ M1, mk_qx τ z (p + 1) M1 ∧ (∀ k, k < 3 → M1 5 (7 + k) = nI (mk_tus (7 + k))) ∧ (∀ c, c ≠ 2 → c ≠ 5 → M1 c = M c) ∧ F_CoastReader_readItems N (7 : Int32) (10 : Int32) M = F_CoastReader_readItems_b24 N N (7 : Int32) (10 : Int32) (nI (0 * 2 ^ 7)) (nI (7 + 0)) M1 := by
    intro M h
    have h1 := h.at (p' := p + 1) (by omega)
    refine ⟨mj_a (mj_u M 2 2 (nI (p + 1))) 5 (va_cpy (fun j => ([20, 63, 0, 1, 0, 3, 2, 4, 2, 0] : List Int32).getD j 0) (mj_u M 2 2 (nI (p + 1)) 5) 7 7 3), h1.a5, fun k hk => ?_, fun c h1 h2 => by rw [nw_a9 _ h2, nw_u9 _ h1], ?_⟩
    · rw [nw_ae]
      unfold va_cpy
      rw [if_pos (by omega), show 7 + (7 + k - 7) = 7 + k by omega]
      exact mk_tus_x (7 + k) (by omega)
    · rw [F_CoastReader_readItems]
      simp only [mj_lt]
      rw [h.2.2.1, nI_1, tw, mk_bs]
      rfl
  have eM : ∀ M, mk_qm τ z (p + 1) M → ∃ M1, mk_qm τ z (mk_sq τ z (p + 1)) M1 ∧ (∀ k, k < 3 → M1 61 (b + k) = nI (mk_tus (7 + k))) ∧ mk_fi 61 b 3 M M1 ∧ F_M_items_c61 N (nI 116) (nI b) (3 : Int32) M = F_M_items_c61_b41 N N (nI 116) (nI b) (nI 0) (if mk_kk 7 3 (mk_ch τ z (p + 1)) < 9 then nI (mk_kk 7 3 (mk_ch τ z (p + 1))) else -nI 1) M1 := by
    intro M h
    obtain ⟨M1, x1, x2, x3, x4⟩ := mk_b3_7 (N := N) (p := p + 1) hb 3 0 N M (by omega) (by omega) h (fun k hk => absurd hk (Nat.not_lt_zero _))
    refine ⟨_, x1.at (p' := mk_sq τ z (p + 1)) (by omega), fun k hk => by rw [nw_u9 _ (by omega)]; exact x2 k hk, x3.u (by omega), ?_⟩
    have hl : mk_ch τ z (p + 1) < 256 := mk_c0_lt hz _
    rw [F_M_items_c61, nl_0, x4, x1.pk hN, mk_bs]
    dsimp only
    rw [mk_Mit_7 hl, mk_bs]
    rfl
  rcases mk_Ait_7 hN hz hb 3 0 0 (fun k => mk_tus (7 + k)) (p + 1) N N (by omega) (by omega) (by decide) (by omega) (by omega) (by omega) (fun k hk => by
    have t9 := mk_t99 (7 + k) (by omega)
    exact ⟨t9.2.2.1, t9.2.2.2.1⟩) with ⟨I', p1, p2, b1, b2, b3, b4, b5, b6, b7⟩ | ⟨w, b1, b2, b3⟩
  · refine Or.inl ⟨I', p1, p2, b1, b2, b3, b4, b5, fun M h => ?_, fun M h => ?_⟩
    · obtain ⟨M1, x1, x2, x3, x4⟩ := eX M h
      obtain ⟨M2, x5, x6, x7, x8⟩ := b6 M1 x1 x2
      exact ⟨M2, x4.trans x5, x6, x7, fun c h1 h2 => (x8 c h1 h2).trans (x3 c h1 h2)⟩
    · obtain ⟨M1, x1, x2, x3, x4⟩ := eM M h
      obtain ⟨M2, x5, x6, x7, x8⟩ := b7 M1 x1 x2
      exact ⟨M2, x4.trans x5, x6, x7, x3.tr x8⟩
  · refine Or.inr ⟨w, b1, fun M h => ?_, fun M h => ?_⟩
    · obtain ⟨M1, x1, x2, x3, x4⟩ := eX M h
      obtain ⟨M2, x5, x6, x7, x8⟩ := b2 M1 x1
      exact ⟨M2, x4.trans x5, x6, x7, fun c h1 h2 => (x8 c h1 h2).trans (x3 c h1 h2)⟩
    · obtain ⟨M1, x1, x2, x3, x4⟩ := eM M h
      obtain ⟨M2, x5, x6, x7⟩ := b3 M1 x1
      exact ⟨M2, x4.trans x5, x6, x3.tr x7⟩
end Kinds
