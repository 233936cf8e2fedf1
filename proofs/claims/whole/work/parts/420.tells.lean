/-! ===== the pure side: tells ===== -/
section Tells
variable {N : Nat} {S : mk_S} {A : mk_L} {M : mj_M}
/-- the numbers that a telling changes, days and log aside, as the other side does it -/
def mk_t4 (S : mk_S) (t n : Nat) : mk_S := mk_u (mk_u (mk_u (mk_u S 65 (S 65 42 * 6 + t) (min (S 65 (S 65 42 * 6 + t) + 1) 99)) 65 46 (S 65 46 + n)) 65 44 (mk_ba (S 65 44) n)) 65 47 (S 65 47 + if n = 0 then 1 else 0)
theorem mk_t4_5 {t n : Nat} (h42 : S 65 42 < 6) (ht : t < 6) : mk_u (mk_t4 S t n) 65 45 (S 65 45 + max n 1) = mk_t5 S t n := by
  unfold mk_t4 mk_t5
  rw [mk_u_comm (a := 47) (b := 45) (by omega), mk_u_comm (a := 44) (b := 45) (by omega), mk_u_comm (a := 46) (b := 45) (by omega)]
theorem mk_MtellNow (hN : 10000 ≤ N) (hw : mk_W S A) (hM : mk_M S A M) {t : Nat} (h0 : 0 < S 48 25) (ht : t < S 48 26) : ∃ M', F_M_tellNow N (nI t) M = some (nI (mk_now S A (S 65 42) t), M') ∧ mk_M (mk_t4 S t (mk_now S A (S 65 42) t)) A M' ∧ mk_fm M M' ∧ (∀ c, c ≠ 57 → c ≠ 58 → c ≠ 65 → M' c = M c) := by
  have h6 := hw.h6
  have t6 := hw.t6
  have hsp := hw.now.spotH h0
  have hday := hw.now.day
  have hbr := hw.now.bread
  have h99 := hw.now.heard (S 65 42 * 6 + t) (by omega)
  obtain ⟨M1, e1, f1⟩ := mk_Mnow (N := N) (by omega) hw hM hsp ht
  have hM1 := hM.q f1
  have h20 := mk_now20 S A (S 65 42) t
  generalize mk_now S A (S 65 42) t = n at *
  unfold F_M_tellNow
  simp only [mj_lt]
  rw [hM.now 42 (by omega), e1]
  simp only [Option.bind_some]
  rw [mk_Mheard hw hM1.1 hsp ht]
  simp only [Option.bind_some]
  rw [show (0 : Int32) + 6 * nI (S 65 42) + nI t = nI (S 65 42 * 6 + t) by rw [nl_0, nl_6, pk_mul, nI_add, nI_add]; congr 1; omega, nw_ck (by omega) (by omega), nI_clamp (by omega), nI_1, nl_99, nw_min (by omega) (by omega), Nat.min_comm]
  have m1 := hM1.1.n (k := S 65 42 * 6 + t) (v := min (S 65 (S 65 42 * 6 + t) + 1) 99)
  simp (disch := omega) only [mj_u_eq, mj_up_ne]
  rw [hM1.1.now 46 (by omega), hM1.1.now 44 (by omega), nI_add, show mj_max 0 (nI (S 65 44) - 1) = nI (S 65 44 - 1) from (nw_max0 (b := S 65 44) (by omega)).2, nl_3, pk_div (by omega) (by omega) (by omega), nI_add, nl_999, nw_min (by omega) (by omega), Nat.min_comm 999]
  have m2 := m1.n (k := 46) (v := S 65 46 + n)
  have e : ∀ b : Nat, F_M_tellNow_b95 N (nI n) 44 (nI b) (mj_u (mj_u M1 65 (S 65 42 * 6 + t) (nI (min (S 65 (S 65 42 * 6 + t) + 1) 99))) 65 46 (nI (S 65 46 + n))) = some (nI n, mj_u (mj_u (mj_u (mj_u M1 65 (S 65 42 * 6 + t) (nI (min (S 65 (S 65 42 * 6 + t) + 1) 99))) 65 46 (nI (S 65 46 + n))) 65 44 (nI b)) 65 47 (nI (S 65 47 + if n = 0 then 1 else 0))) := by
    intro b
    unfold F_M_tellNow_b95
    simp only [mj_lt]
    rw [show mj_ck (44 : Int32) 229 = mj_ck (R := Int32 × mj_M) (nI 44) 229 from rfl, nw_ck (by omega) (by omega), show ((44 : Int32)).toNatClampNeg = 44 by decide +kernel]
    simp (disch := omega) only [mj_u_eq, mj_up_ne]
    rw [hM1.1.now 47 (by omega), nI_1, nl_0, nI_add]
    simp (disch := omega) only [nw_eq]
    split <;> rfl
  rw [e, e, nl_0]
  simp (disch := omega) only [nw_eq]
  have eb : ∀ X : Nat → Option (Int32 × mj_M), (if n = 0 then X (S 65 44 - 1) else X (min (S 65 44 + n / 3) 999)) = X (mk_ba (S 65 44) n) := by
    intro X
    unfold mk_ba
    split <;> rfl
  rw [eb (fun b => some (nI n, mj_u (mj_u (mj_u (mj_u M1 65 (S 65 42 * 6 + t) (nI (min (S 65 (S 65 42 * 6 + t) + 1) 99))) 65 46 (nI (S 65 46 + n))) 65 44 (nI b)) 65 47 (nI (S 65 47 + if n = 0 then 1 else 0))))]
  refine ⟨_, rfl, ?_, (((hM1.2.u (by omega)).u (by omega)).u (by omega)).u (by omega), fun c h1 h2 h3 => ?_⟩
  · unfold mk_t4
    exact m2.n.n
  · rw [nw_u9 _ h3, nw_u9 _ h3, nw_u9 _ h3, nw_u9 _ h3]; exact f1 c h1 h2
theorem mk_Mnote (hN : 10000 ≤ N) {h t n : Nat} (hM : mk_M S A M) (hl : S 65 48 = min (S 65 229) 60) : ∃ M', F_M_noteTelling N (nI h) (nI t) (nI n) M = some M' ∧ mk_M (mk_sn S (mk_lg (S 65) h t n)) A M' ∧ mk_fm M M' ∧ ∀ c, c ≠ 65 → M' c = M c := by
  have fin : ∀ M', (∀ c, c ≠ 65 → M' c = M c) → (∀ k, k < 229 → M' 65 k = nI (mk_lg (S 65) h t n k)) → mk_M (mk_sn S (mk_lg (S 65) h t n)) A M' ∧ mk_fm M M' ∧ ∀ c, c ≠ 65 → M' c = M c := by
    intro M' f g
    refine ⟨?_, fun c hc => f c (by omega), f⟩
    unfold mk_M
    simp (disch := omega) only [mk_snn, mk_sn5, f]
    exact ⟨hM.size, hM.laws, hM.hs, hM.ts, hM.hold, hM.why, hM.kept, hM.sights, hM.img, hM.tape, hM.lens, fun n hn => mk_cl_cg (f _ (by omega)) (f _ (by omega)) (f _ (by omega)) (f _ (by omega)) (f _ (by omega)) _ _ _ (hM.codes n hn), hM.often, hM.house, hM.tale, g, hM.ref, hM.rows, hM.sh, hM.sb, hM.si, hM.image⟩
  unfold F_M_noteTelling
  rw [hM.now 48 (by omega)]
  by_cases c : S 65 48 = 60
  · rw [c, if_pos (by decide +kernel)]
    obtain ⟨M1, p, q⟩ := mk_lp (L := fun m (_ : Unit) i M => F_M_noteTelling_b15 N m (nI h) (nI t) (nI n) (nI i) M) 180 (fun _ s => s) (fun i _ M1 => 3 ≤ i ∧ (∀ c, c ≠ 65 → M1 c = M c) ∧ (∀ k, 49 ≤ k → k + 3 < 49 + i → M1 65 k = M 65 (k + 3)) ∧ (∀ k, k < 49 ∨ 49 + i ≤ k + 3 → M1 65 k = M 65 k)) (fun _ M => F_M_noteTelling_b62 N (nI h) (nI t) (nI n) (mj_u M 65 48 (M 65 48 - 1)))
      (fun m s M1 p => by rw [F_M_noteTelling_b15, show (180 : Int32) = nI 180 from rfl, if_pos (Int32.le_refl _)]; rfl)
      (fun m s i M1 hi p => by
        obtain ⟨p0, p1, p2, p3⟩ := p
        refine ⟨mj_u M1 65 (46 + i) (M1 65 (49 + i)), ⟨by omega, fun c hc => by rw [nw_u9 _ hc]; exact p1 c hc, fun k h1 h2 => ?_, fun k hk => ?_⟩, ?_⟩
        · rw [mj_u_eq]
          by_cases e : k = 46 + i
          · rw [e, mj_up_eq, p3 _ (by omega)]
            congr 1
            omega
          · rw [mj_up_ne _ _ _ e]; exact p2 k h1 (by omega)
        · rw [mj_u_eq, mj_up_ne _ _ _ (by omega)]; exact p3 k (by omega)
        · rw [F_M_noteTelling_b15, show (180 : Int32) = nI 180 from rfl, if_neg (nI_ge hi (by omega)), nl_49, nI_add, nw_ck (by omega) (by omega), nl_3, pk_sub (by omega), nw_ck (by omega) (by omega), nI_clamp (by omega), nI_clamp (by omega), nI_1, show 49 + i - 3 = 46 + i by omega]
          rfl)
      177 3 N () M (by omega) (by omega) ⟨by omega, fun _ _ => rfl, fun k h1 h2 => by omega, fun _ _ => rfl⟩
    obtain ⟨p0, p1, p2, p3⟩ := p
    have q' : F_M_noteTelling_b15 N N (nI h) (nI t) (nI n) 3 M = F_M_noteTelling_b62 N (nI h) (nI t) (nI n) (mj_u M1 65 48 (M1 65 48 - 1)) := q
    rw [q', p3 48 (by omega), hM.now 48 (by omega), c, show nI 60 - 1 = nI 59 from rfl]
    unfold F_M_noteTelling_b62
    simp only [mj_lt, mj_u_eq, mj_up_eq]
    rw [show (49 : Int32) + 3 * nI 59 = nI 226 from rfl, nw_ck (by omega) (by omega), nI_clamp (by omega), show nI 226 + 1 = nI 227 from rfl, nw_ck (by omega) (by omega), nI_clamp (by omega), show nI 226 + 2 = nI 228 from rfl, nw_ck (by omega) (by omega), nI_clamp (by omega)]
    refine ⟨_, rfl, fin _ (fun c hc => ?_) (fun k hk => ?_)⟩
    · rw [nw_u9 _ hc, nw_u9 _ hc, nw_u9 _ hc, nw_u9 _ hc, nw_u9 _ hc]; exact p1 c hc
    · simp only [mj_u_eq]
      unfold mk_lg
      rw [if_pos c]
      by_cases k0 : k = 48
      · rw [k0, mj_up_eq, if_pos rfl, mj_up_ne _ _ _ (by omega), mj_up_ne _ _ _ (by omega), mj_up_ne _ _ _ (by omega), mj_up_eq, show nI 59 + 1 = nI 60 from rfl]
        congr 1
        omega
      · rw [mj_up_ne _ _ _ k0, if_neg k0, if_neg (by omega)]
        by_cases k1 : k < 49
        · rw [if_pos k1, mj_up_ne _ _ _ (by omega), mj_up_ne _ _ _ (by omega), mj_up_ne _ _ _ (by omega), mj_up_ne _ _ _ (by omega), p3 k (by omega)]
          exact hM.now k hk
        · rw [if_neg k1, if_neg (by omega)]
          by_cases k2 : k < 226
          · rw [if_pos k2, mj_up_ne _ _ _ (by omega), mj_up_ne _ _ _ (by omega), mj_up_ne _ _ _ (by omega), mj_up_ne _ _ _ (by omega), p2 k (by omega) (by omega)]
            exact hM.now _ (by omega)
          · rw [if_neg k2]
            have : k = 226 ∨ k = 227 ∨ k = 228 := by omega
            rcases this with rfl | rfl | rfl
            · rw [if_pos rfl, mj_up_ne _ _ _ (by omega), mj_up_ne _ _ _ (by omega), mj_up_eq]
            · rw [if_neg (by omega), if_pos rfl, mj_up_ne _ _ _ (by omega), mj_up_eq]
            · rw [if_neg (by omega), if_neg (by omega), mj_up_eq]
  · rw [if_neg (show ¬ nI (S 65 48) = (60 : Int32) by rw [nl_60, nw_eq (by omega) (by omega)]; exact c)]
    unfold F_M_noteTelling_b62
    simp only [mj_lt]
    rw [hM.now 48 (by omega), nl_3, pk_mul, nl_49, nI_add, nw_ck (by omega) (by omega), nI_clamp (by omega), nI_1, nw_ck (by omega) (by omega), nI_clamp (by omega), nl_2, nI_add, nw_ck (by omega) (by omega), nI_clamp (by omega)]
    refine ⟨_, rfl, fin _ (fun c hc => ?_) (fun k hk => ?_)⟩
    · rw [nw_u9 _ hc, nw_u9 _ hc, nw_u9 _ hc, nw_u9 _ hc]
    · simp only [mj_u_eq]
      unfold mk_lg
      rw [if_neg c]
      by_cases k0 : k = 48
      · rw [k0, mj_up_eq, if_pos rfl, mj_up_ne _ _ _ (by omega), mj_up_ne _ _ _ (by omega), mj_up_ne _ _ _ (by omega), hM.now 48 (by omega), nI_1]
        congr 1
        omega
      · rw [mj_up_ne _ _ _ k0, if_neg k0, if_neg (by omega)]
        by_cases k1 : k < 49
        · rw [if_pos k1, mj_up_ne _ _ _ (by omega), mj_up_ne _ _ _ (by omega), mj_up_ne _ _ _ (by omega)]
          exact hM.now k hk
        · rw [if_neg k1, if_neg (by omega)]
          by_cases k2 : k = 49 + 3 * S 65 48
          · rw [if_pos k2, mj_up_ne _ _ _ (by omega), mj_up_ne _ _ _ (by omega), k2, mj_up_eq]
          · rw [if_neg k2]
            by_cases k3 : k = 50 + 3 * S 65 48
            · rw [if_pos k3, mj_up_ne _ _ _ (by omega), show k = 49 + 3 * S 65 48 + 1 by omega, mj_up_eq]
            · rw [if_neg k3]
              by_cases k4 : k = 51 + 3 * S 65 48
              · rw [if_pos k4, show k = 49 + 3 * S 65 48 + 2 by omega, mj_up_eq]
              · rw [if_neg k4, mj_up_ne _ _ _ (by omega), mj_up_ne _ _ _ (by omega), mj_up_ne _ _ _ (by omega)]
                exact hM.now k hk
theorem mk_Mtell (hN : 10000 ≤ N) (hw : mk_W S A) (hM : mk_M S A M) {t : Nat} (h0 : 0 < S 48 25) (ht : t < S 48 26) : ∃ M', F_M_tellLogged N (nI t) M = some (nI (mk_now S A (S 65 42) t), M') ∧ mk_M (mk_tell S t (mk_now S A (S 65 42) t)) A M' ∧ mk_fm M M' ∧ ∀ c, c ≠ 57 → c ≠ 58 → c ≠ 65 → M' c = M c := by
  have t6 := hw.t6
  have h42 := hw.now.spot
  have hday := hw.now.day
  obtain ⟨M1, e1, x1, f1, g1⟩ := mk_MtellNow hN hw hM h0 ht
  have h20 := mk_now20 S A (S 65 42) t
  generalize mk_now S A (S 65 42) t = n at *
  unfold F_M_tellLogged
  simp only [mj_lt]
  rw [e1]
  simp only [Option.bind_some]
  have e45 : mk_t4 S t n 65 45 = S 65 45 := by
    unfold mk_t4
    simp only [mk_u5]
    rw [mj_up_ne _ _ _ (by omega), mj_up_ne _ _ _ (by omega), mj_up_ne _ _ _ (by omega), mj_up_ne _ _ _ (by omega)]
  have x2 := x1.n (k := 45) (v := S 65 45 + max n 1)
  rw [mk_t4_5 h42 (by omega)] at x2
  rw [x1.now 45 (by omega), e45, nl_1, nw_max (by omega) (by omega), Nat.max_comm, nI_add, hM.now 42 (by omega)]
  have e48 : mk_t5 S t n 65 48 = min (mk_t5 S t n 65 229) 60 := by rw [mk_t5_l h42 (by omega) (by omega), mk_t5_l h42 (by omega) (by omega)]; exact hw.now.log
  obtain ⟨M3, e3, x3, f3, g3⟩ := mk_Mnote hN (h := S 65 42) (t := t) (n := n) x2 e48
  rw [e3]
  exact ⟨M3, rfl, x3, (f1.u (by omega)).tr f3, fun c h1 h2 h3 => by rw [g3 c h3, nw_u9 _ h3]; exact g1 c h1 h2 h3⟩
theorem mk_MtooLong (hN : 10000 ≤ N) (hw : mk_W S A) (hM : mk_M S A M) {t : Nat} (h0 : 0 < S 48 25) (ht : t < S 48 26) : ∃ M', F_M_isTooLong N (nI t) M = some (if S 65 45 + max (mk_now S A (S 65 42) t) 1 ≤ 9999 then 0 else 1, M') ∧ mk_M S A M' ∧ mk_fm M M' ∧ ∀ c, c ≠ 57 → c ≠ 58 → M' c = M c := by
  have hsp := hw.now.spotH h0
  obtain ⟨M1, e1, g1⟩ := mk_Mnow (N := N) (by omega) hw hM hsp ht
  obtain ⟨x1, f1⟩ := hM.q g1
  have h20 := mk_now20 S A (S 65 42) t
  refine ⟨M1, ?_, x1, f1, g1⟩
  unfold F_M_isTooLong
  rw [hM.now 42 (by omega), e1]
  simp only [Option.bind_some]
  rw [nl_1, nw_max (by omega) (by omega), Nat.max_comm, mk_Mlate x1 hw (by omega)]
  rfl
end Tells
theorem op_9 {N : Nat} (hN : 10000 ≤ N) : mo_9 N mk_I := by
  intro M ⟨S, A, hw, hX, hM⟩ a
  have h6 := hw.h6
  have t6 := hw.t6
  have hht := hw.ht
  rcases mk_ix a (n := S 48 26) (by omega) with h | ⟨t, ht, rfl⟩
  · refine mk_refuse hw hX hM 0 (by omega) (fun M hX => ⟨M, hX, mk_fx.rf, ?_⟩) (fun M hM => ⟨M, hM, mk_fm.rf, fun M1 e => ?_⟩)
    · unfold F_W_tells; rw [mk_Xt0 hX h]; rfl
    · unfold F_M_tells; rw [mk_Mt0 hM hw h]; exact r_tells (N := N) (x := a) e
  have h0 : 0 < S 48 25 := by omega
  have hsp := hw.now.spotH h0
  have hday := hw.now.day
  have hb2 := nw_b2 (S 65 43) t
  by_cases c0 : nw_b (S 65 43) t = 0
  · refine mk_refuse hw hX hM 2 (by omega) (fun M hX => ⟨M, hX, mk_fx.rf, ?_⟩) (fun M hM => ⟨M, hM, mk_fm.rf, fun M1 e => ?_⟩)
    · unfold F_W_tells; rw [mk_Xt1 hX hw ht]
      simp only [Option.bind_some]
      rw [if_neg (by decide +kernel), mk_Xowns hX hw (by omega), c0]; rfl
    · unfold F_M_tells; rw [mk_Mt1 hM hw ht]
      simp only [Option.bind_some]
      rw [if_neg (by decide +kernel), mk_Mowns hM hw (by omega), c0]; exact r_tells (N := N) (x := nI t) e
  have c1 : nw_b (S 65 43) t = 1 := by omega
  have h20 := mk_now20 S A (S 65 42) t
  have ex : ∀ M, mk_X S A M → ∃ M0, mk_X S A M0 ∧ mk_fx M M0 ∧ F_W_tells N (nI t) M = (if 9999 < S 65 45 + max (mk_now S A (S 65 42) t) 1 then (F_W_refuse (nI 4) M0).bind (fun q => some (q.1, q.2)) else (F_Past_keep_c20 M0).bind (fun q9 => (F_Stand_tellHere (nI t) (nI (mk_now S A (S 65 42) t)) q9).bind (fun q10 => some (nI (mk_now S A (S 65 42) t), q10)))) := by
    intro M hX
    obtain ⟨M1, e1, x1, f1⟩ := mk_Xnow' (N := N) (by omega) hw hX hsp ht
    refine ⟨M1, x1, f1, ?_⟩
    unfold F_W_tells F_Stand_daysOf
    rw [mk_Xt1 hX hw ht]
    simp only [Option.bind_some]
    rw [if_neg (by decide +kernel), mk_Xowns hX hw (by omega), c1]
    simp only [Option.bind_some]
    rw [if_neg (show ¬ nI 1 = (0 : Int32) by decide +kernel), hX.now.1, e1]
    simp only [Option.bind_some]
    rw [nl_1, nw_max (by omega) (by omega), mk_Xdays x1 hw (by omega)]
    simp only [Option.bind_some]
    by_cases c : 9999 < S 65 45 + max (mk_now S A (S 65 42) t) 1
    · rw [if_pos c, if_pos c]; rfl
    · rw [if_neg c, if_neg c]; rfl
  have em : ∀ M, mk_M S A M → ∃ M0, mk_M S A M0 ∧ mk_fm M M0 ∧ F_M_tells N (nI t) M = F_M_tells_b38 N (nI t) (if 9999 < S 65 45 + max (mk_now S A (S 65 42) t) 1 then nI 4 else -1) M0 := by
    intro M hM
    obtain ⟨M1, e1, x1, f1, -⟩ := mk_MtooLong hN hw hM h0 ht
    refine ⟨M1, x1, f1, ?_⟩
    unfold F_M_tells
    rw [mk_Mt1 hM hw ht]
    simp only [Option.bind_some]
    rw [if_neg (by decide +kernel), mk_Mowns hM hw (by omega), c1]
    simp only [Option.bind_some]
    rw [if_neg (show ¬ nI 1 = (0 : Int32) by decide +kernel), e1]
    simp only [Option.bind_some]
    by_cases c : 9999 < S 65 45 + max (mk_now S A (S 65 42) t) 1
    · rw [if_pos c, if_neg (show ¬ (S 65 45 + max (mk_now S A (S 65 42) t) 1 ≤ 9999) by omega)]; rfl
    · rw [if_neg c, if_pos (show S 65 45 + max (mk_now S A (S 65 42) t) 1 ≤ 9999 by omega)]; rfl
  by_cases c : 9999 < S 65 45 + max (mk_now S A (S 65 42) t) 1
  · simp only [if_pos c] at ex em
    refine mk_refuse hw hX hM 4 (by omega) ex (fun M hM => ?_)
    obtain ⟨M0, x0, f0, e0⟩ := em M hM
    exact ⟨M0, x0, f0, fun M1 e => by rw [e0]; exact r_tells e⟩
  simp only [if_neg c] at ex em
  have hk := hw.keep h0
  have kn : mk_now (mk_keep S) A (mk_keep S 65 42) t = mk_now S A (S 65 42) t := by
    unfold mk_now mk_by mk_w mk_lt
    rw [mk_k5, mk_keep48, mj_up_ne _ _ _ (by omega), mk_keepn (c := 62) (by omega) (by omega) (by omega), mk_keepn (c := 63) (by omega) (by omega) (by omega), mk_keepn (c := 64) (by omega) (by omega) (by omega)]
  refine mk_fin (S' := mk_tell (mk_keep S) t (mk_now S A (S 65 42) t)) (A' := A) (r := nI (mk_now S A (S 65 42) t)) (mk_Wtell hk.1 hk.2 (by rw [mk_kH]; exact h0) (by rw [mk_kT]; exact ht) h20 (by rw [mk_k5]; omega)) hX hM (fun M hX => ?_) (fun M hM => ?_)
  · obtain ⟨M0, x0, f0, e0⟩ := ex M hX
    obtain ⟨M1, e1, x1, f1⟩ := mk_Xkeep hw x0
    obtain ⟨M2, e2, x2, f2⟩ := mk_Xtell hk.1 x1 hk.2 (by rw [mk_kH]; exact h0) (t := t) (by rw [mk_kT]; exact ht) h20
    refine ⟨M2, ?_, x2, (f0.tr f1).tr f2⟩
    rw [e0, e1]
    simp only [Option.bind_some]
    rw [e2]; rfl
  · obtain ⟨M0, x0, f0, e0⟩ := em M hM
    obtain ⟨M1, e1, x1, f1⟩ := mk_Mkeep hN hw x0
    obtain ⟨M2, e2, x2, f2, -⟩ := mk_Mtell hN hk.1 x1 (by rw [mk_kH]; exact h0) (t := t) (by rw [mk_kT]; exact ht)
    rw [kn] at e2 x2
    refine ⟨M2, ?_, x2, (f0.tr f1).tr f2⟩
    rw [e0]
    unfold F_M_tells_b38
    rw [mk_Mref1]
    simp only [Option.bind_some]
    rw [if_pos trivial, e1]
    simp only [Option.bind_some]
    rw [e2]; rfl
