/-! weigh; best -/
section
variable {kd lo ah : Nat → Int32} {nb : Nat} {K L A : Nat → Nat}
/-- the class's table holds the reference's values, for all sets behind one -/
def MI (M B : Nat → Int32) (A : Nat → Nat) (nb c t : Nat) : Prop := ∀ u, t < u → u < 2 ^ nb → good A c u → ∀ b, u.testBit b = true → c.testBit b = false → M (9 * u + b) = B (10 * u + b + 1)
theorem find_cg {p q : Nat → Bool} : ∀ (l : List Nat), (∀ x, x ∈ l → p x = q x) → l.find? p = l.find? q := by
  intro l
  induction l with
  | nil => intro _; rfl
  | cons x l ih =>
    intro h
    have h1 := h x List.mem_cons_self
    have h2 := ih (fun y hy => h y (List.mem_cons_of_mem _ hy))
    cases e : p x with
    | true => rw [List.find?_cons_of_pos e, List.find?_cons_of_pos (by rw [← h1]; exact e)]
    | false => rw [List.find?_cons_of_neg (by rw [e]; decide), List.find?_cons_of_neg (by rw [← h1, e]; decide), h2]
/-- what the class finds behind a set is the reference's value -/
theorem mb_val {B M sco fo mt : Nat → Int32} {w c t a : Nat} (h9 : nb ≤ 9) (hL : ∀ b, b < nb → L b ≤ 99) (hw : way A nb c = true) (hB : ∀ t, t < 2 ^ nb → t &&& c = c → blk B w K L A nb t) (hsco : ∀ a b, a ≤ 9 → b < nb → sco (9 * a + b) = br w K L b (al nb a)) (hM : MI M B A nb c t) (hF : FO fo mt M A nb t) (ht : t < 2 ^ nb) (hg : good A c t) (ha : a ≤ 9) :
    X1_mostBehind (nI (fll A t 0 nb).length) sco fo mt (nI a) = some (B (10 * t + al nb a)) ∧ (∀ x, x ∈ fll A t 0 nb → x < nb ∧ sco (9 * a + x) + M (9 * (t ||| 2 ^ x) + x) = gv B w K L t (al nb a) x) ∧ X1_firstBehind (nI (fll A t 0 nb).length) sco fo mt (nI a) = some (nI (((fll A t 0 nb).find? (fun x => decide (gv B w K L t (al nb a) x = B (10 * t + al nb a)))).getD 0)) := by
  have h2 := two_lt h9
  have hlen := fll_len (A := A) (t := t) nb 0
  have hx : ∀ x, x ∈ fll A t 0 nb → x < nb ∧ sco (9 * a + x) + M (9 * (t ||| 2 ^ x) + x) = gv B w K L t (al nb a) x := by
    intro x hx
    obtain ⟨-, h3, h4⟩ := (fll_mem nb 0).mp hx
    have hxn : x < nb := by omega
    have hc := (canF_iff.mp h4).1
    have hcx : c.testBit x = false := by
      cases e : c.testBit x with
      | false => rfl
      | true => rw [hg.1 x e] at hc; cases hc
    refine ⟨hxn, ?_⟩
    rw [hsco a x ha hxn, hM _ (or_two_lt hc) (Nat.or_lt_two_pow ht (Nat.pow_lt_pow_right (by decide) hxn)) (good_step hg h4) x (by rw [Nat.testBit_or, Nat.testBit_two_pow_self, Bool.or_true]) hcx, Int32.add_comm]
    rfl
  have hall : ∀ x, x ∈ fll A t 0 nb → x < 9 := fun x hxm => by have := (hx x hxm).1; omega
  obtain ⟨ov, oe⟩ := val_ok h9 hL hw hB 512 t (by omega) ht hg (al nb a) (al_le nb a)
  have hmb : X1_mostBehind (nI (fll A t 0 nb).length) sco fo mt (nI a) = some (B (10 * t + al nb a)) := by
    have h1 := mb_loop (sco := sco) (fo := fo) (mt := mt) (f := fun x => sco (9 * a + x) + M (9 * (t ||| 2 ^ x) + x)) ha (fun x => M (9 * (t ||| 2 ^ x) + x)) (fun x _ => rfl) (fll A t 0 nb) 0 FU (-1000000) hall (fun j hj => by rw [Nat.zero_add]; exact hF j hj) (by omega) (by unfold FU; omega)
    rw [Nat.zero_add] at h1
    unfold X1_mostBehind
    have h1' : X1_mostBehind_L5 (nI (fll A t 0 nb).length) sco fo mt FU (nI a) (-1000000) 0 = _ := h1
    rw [h1']
    by_cases e : t = 2 ^ nb - 1
    · have hnil : fll A t 0 nb = [] := by
        cases hf : fll A t 0 nb with
        | nil => rfl
        | cons x l' =>
          exfalso
          have hxm : x ∈ fll A t 0 nb := by rw [hf]; exact List.mem_cons_self
          obtain ⟨-, h3, h4⟩ := (fll_mem nb 0).mp hxm
          have := (canF_iff.mp h4).1
          rw [e, tb_full, decide_eq_true (by omega)] at this
          cases this
      have hv := hB t ht (and_sub.mpr hg.1) (al nb a) (al_le nb a)
      rw [hv]
      unfold vl
      rw [hnil, if_pos e, List.length_nil, if_pos rfl]
      rfl
    · obtain ⟨o1, o2⟩ := oe e
      obtain ⟨b, hb1, hb2⟩ := way_step hw hg.1 ht e
      have hbm : b ∈ fll A t 0 nb := (fll_mem nb 0).mpr ⟨Nat.zero_le _, by omega, hb2⟩
      rw [o2]
      cases hf : fll A t 0 nb with
      | nil => rw [hf] at hbm; cases hbm
      | cons x l' =>
        have hxm : x ∈ fll A t 0 nb := by rw [hf]; exact List.mem_cons_self
        rw [if_neg (by rw [List.length_cons]; omega)]
        congr 1
        have e1 : (x :: l').foldl (fun a_1 x => xmax a_1 (sco (9 * a + x) + M (9 * (t ||| 2 ^ x) + x))) (-1000000) = (x :: l').foldl (fun a_1 x => xmax a_1 (gv B w K L t (al nb a) x)) (-1000000) := by
          apply foldl_cg
          intro y hy z
          rw [(hx y (by rw [hf]; exact hy)).2]
        rw [e1, fold_start (ok_gt (o1 x hxm) (by omega)).2, fold_start (ok_gt (o1 x hxm) (by omega)).1]
  refine ⟨hmb, hx, ?_⟩
  unfold X1_firstBehind
  rw [hmb, Option.bind_some]
  have h1 := fb_loop (sco := sco) (fo := fo) (mt := mt) (f := fun x => sco (9 * a + x) + M (9 * (t ||| 2 ^ x) + x)) ha (fun x => M (9 * (t ||| 2 ^ x) + x)) (fun x _ => rfl) (B (10 * t + al nb a)) (fll A t 0 nb) 0 FU hall (fun j hj => by rw [Nat.zero_add]; exact hF j hj) (by omega) (by unfold FU; omega)
  rw [Nat.zero_add] at h1
  have h1' : X1_firstBehind_L8 (nI (fll A t 0 nb).length) sco fo mt FU (nI a) (B (10 * t + al nb a)) 0 = _ := h1
  rw [h1']
  congr 3
  apply find_cg
  intro x hxm
  rw [(hx x hxm).2]
theorem weigh_in {B M0 sco fo mt : Nat → Int32} {w c t : Nat} (h9 : nb ≤ 9) (hL : ∀ b, b < nb → L b ≤ 99) (hw : way A nb c = true) (hB : ∀ t, t < 2 ^ nb → t &&& c = c → blk B w K L A nb t) (hsco : ∀ a b, a ≤ 9 → b < nb → sco (9 * a + b) = br w K L b (al nb a)) (hM : MI M0 B A nb c t) (hF : FO fo mt M0 A nb t) (hcl : c < 2 ^ nb) (ht : t < 2 ^ nb) (hg : good A c t) (k10 : Int32 → Int32 → (Nat → Int32) → (Nat → Int32) → (Nat → Int32) → (Nat → Int32) → Option (Int32 × Int32 × (Nat → Int32) × (Nat → Int32) × (Nat → Int32) × (Nat → Int32))) :
    ∀ d k n M, k + d = nb → d < n → ∃ M', X1_weigh_L33 k10 (nI nb) (nI c) n (nI t) (nI k) (nI (fll A t 0 nb).length) sco M fo mt = k10 (nI t + (-1)) (nI (fll A t 0 nb).length) sco M' fo mt ∧ (∀ b, k ≤ b → b < nb → t.testBit b = true → c.testBit b = false → M' (9 * t + b) = B (10 * t + b + 1)) ∧ ∀ i, (i < 9 * t + k ∨ 9 * t + nb ≤ i) → M' i = M i := by
  have h2 := two_lt h9
  intro d
  induction d with
  | zero =>
    intro k n M hk hn
    obtain ⟨n, rfl⟩ : ∃ m, n = m + 1 := ⟨n - 1, by omega⟩
    refine ⟨M, ?_, fun b h1 h3 => by omega, fun i _ => rfl⟩
    rw [X1_weigh_L33, if_pos (nI_le (by omega) (by omega))]
  | succ d ih =>
    intro k n M hk hn
    obtain ⟨n, rfl⟩ : ∃ m, n = m + 1 := ⟨n - 1, by omega⟩
    have hnd : nd t c < 2 ^ nb := nd_lt ht
    rw [X1_weigh_L33, if_neg (nI_ge (by omega) (by omega)), ny_nd, nI_1]
    cases eb : (nd t c).testBit k with
    | false =>
      rw [if_pos ((bit_eq (by omega) (by omega)).mpr eb)]
      obtain ⟨M', g1, g2, g3⟩ := ih (k + 1) n M (by omega) (by omega)
      refine ⟨M', g1, fun b h1 h3 h4 h5 => ?_, fun i hi => g3 i (by omega)⟩
      by_cases e : b = k
      · subst e
        rw [nd_tb, h4, h5] at eb
        cases eb
      · exact g2 b (by omega) h3 h4 h5
    | true =>
      obtain ⟨m1, -, -⟩ := mb_val h9 hL hw hB hsco hM hF ht hg (show k ≤ 9 by omega)
      have ha : al nb k = k + 1 := by unfold al; rw [if_pos (by omega)]
      rw [ha, ← Nat.add_assoc] at m1
      rw [if_neg (fun z => by rw [bit_eq (by omega) (by omega), eb] at z; cases z), m1, Option.bind_some, at9, if_pos (inr_lt (by omega) (by decide)), nI_clamp (by omega)]
      obtain ⟨M', g1, g2, g3⟩ := ih (k + 1) n (upd M (9 * t + k) (B (10 * t + k + 1))) (by omega) (by omega)
      refine ⟨M', g1, fun b h1 h3 h4 h5 => ?_, fun i hi => ?_⟩
      · by_cases e : b = k
        · subst e
          rw [g3 _ (by omega), upd_eq]
        · exact g2 b (by omega) h3 h4 h5
      · rw [g3 i (by omega), upd_ne (by omega)]
theorem MI_cg {M M' B : Nat → Int32} {A : Nat → Nat} {nb c t : Nat} (h9 : nb ≤ 9) (h : MI M B A nb c t) (hc : ∀ i, 9 * t + 9 ≤ i → M' i = M i) : MI M' B A nb c t := by
  intro u h1 h3 h4 b h5 h6
  rw [hc _ (by omega)]
  exact h u h1 h3 h4 b h5 h6
theorem weigh_eq {B : Nat → Int32} {w c a : Nat} (h9 : nb ≤ 9) (hk : CK kd lo nb K L) (hco : CO ah nb A) (hwl : w ≤ 1) (hw : way A nb c = true) (hB : ∀ t, t < 2 ^ nb → t &&& c = c → blk B w K L A nb t) (hcl : c < 2 ^ nb) (ha : a ≤ 9) (m0 : Int32) (sc0 M0 fo0 mt0 : Nat → Int32) :
    ∃ many sco M fo mt, X1_weigh m0 (nI nb) (nI c) (nI a) (nI (2 ^ nb - 1)) kd lo ah sc0 M0 fo0 mt0 (nI w) = some (B (10 * c + al nb a), many, sco, M, fo, mt) ∧ (∀ a b, a ≤ 9 → b < nb → sco (9 * a + b) = br w K L b (al nb a)) ∧ MI M B A nb c c := by
  have h2 := two_lt h9
  have hpos := Nat.two_pow_pos nb
  have hL : ∀ b, b < nb → L b ≤ 99 := fun b hb => (hk b hb).2.2.2
  obtain ⟨sco, s1, s2⟩ := score_eq h9 hk hwl sc0
  have loop : ∀ e t n m0 M fo mt, t = c + e → t < 2 ^ nb → e < n → MI M B A nb c t → ∃ many M' fo' mt', X1_weigh_L10 (nI nb) (nI c) (nI a) ah n (nI t) m0 sco M fo mt = some (B (10 * c + al nb a), many, sco, M', fo', mt') ∧ MI M' B A nb c c := by
    intro e
    induction e with
    | zero =>
      intro t n m0 M fo mt ht htl hn hM
      obtain ⟨n, rfl⟩ : ∃ m, n = m + 1 := ⟨n - 1, by omega⟩
      have ht : t = c := by omega
      subst ht
      obtain ⟨fo', mt', f1, f2⟩ := foll_eq h9 hco M fo mt hcl
      obtain ⟨m1, -, -⟩ := mb_val h9 hL hw hB s2 hM f2 hcl (good_c A t) ha
      rw [X1_weigh_L10, if_pos (Int32.le_refl _), f1, Option.bind_some]
      simp only [m1, Option.bind_some]
      exact ⟨_, _, _, _, rfl, hM⟩
    | succ e ih =>
      intro t n m0 M fo mt ht htl hn hM
      obtain ⟨n, rfl⟩ : ∃ m, n = m + 1 := ⟨n - 1, by omega⟩
      obtain ⟨r, c1, c2⟩ := stand_eq h9 hco hcl htl
      have hm1 : nI t + (-1) = nI (t - 1) := by
        rw [← Int32.sub_eq_add_neg, show (1 : Int32) = nI 1 from rfl, nI_sub (by omega)]
      rw [X1_weigh_L10, if_neg (nI_ge (by omega) (by omega)), c1, Option.bind_some]
      cases r with
      | false =>
        rw [if_pos xbf, hm1]
        refine ih (t - 1) n m0 M fo mt (by omega) (by omega) (by omega) (fun u h1 h3 h4 => ?_)
        by_cases e2 : u = t
        · subst e2
          have := c2.mpr h4
          cases this
        · exact hM u (by omega) h3 h4
      | true =>
        have hg := c2.mp rfl
        obtain ⟨fo', mt', f1, f2⟩ := foll_eq h9 hco M fo mt htl
        obtain ⟨M', g1, g2, g3⟩ := weigh_in h9 hL hw hB s2 hM f2 hcl htl hg (fun v20 od_many_0 od_scores_0 od_most_0 od_followers_0 od_mostThen_0 => X1_weigh_L10 (nI nb) (nI c) (nI a) ah n v20 od_many_0 od_scores_0 od_most_0 od_followers_0 od_mostThen_0) nb 0 FU M (by omega) (by unfold FU; omega)
        rw [if_neg xbt, f1, Option.bind_some]
        have g1' : X1_weigh_L33 (fun v20 od_many_0 od_scores_0 od_most_0 od_followers_0 od_mostThen_0 => X1_weigh_L10 (nI nb) (nI c) (nI a) ah n v20 od_many_0 od_scores_0 od_most_0 od_followers_0 od_mostThen_0) (nI nb) (nI c) FU (nI t) 0 (nI (fll A t 0 nb).length) sco M fo' mt' = X1_weigh_L10 (nI nb) (nI c) (nI a) ah n (nI t + (-1)) (nI (fll A t 0 nb).length) sco M' fo' mt' := g1
        simp only [g1']
        rw [hm1]
        refine ih (t - 1) n _ M' fo' mt' (by omega) (by omega) (by omega) (fun u h1 h3 h4 b h5 h6 => ?_)
        by_cases e2 : u = t
        · subst e2
          exact g2 b (Nat.zero_le _) (bit_lt htl h5) h5 h6
        · rw [g3 _ (by omega)]
          exact hM u (by omega) h3 h4 b h5 h6
  obtain ⟨many, M', fo', mt', g1, g2⟩ := loop (2 ^ nb - 1 - c) (2 ^ nb - 1) FU m0 M0 fo0 mt0 (by omega) (by omega) (by unfold FU; omega) (fun u h1 h3 => by omega)
  unfold X1_weigh
  rw [s1, Option.bind_some]
  exact ⟨many, sco, M', fo', mt', g1, s2, g2⟩
end
section
variable {s s' kd lo se ah ru sg no ti sp f5 f6 : Nat → Int32} {bw th cm hd ck zz : Int32} {nb nt : Nat} {K L E A R F : Nat → Nat}
def la9 (F : Nat → Nat) (nt : Nat) : Nat := if nt = 0 then 9 else F (nt - 1)
theorem SP.ala (h : SP s bw th cm hd ck zz kd lo se ah ru sg no ti sp nb nt K L E A R F) : al nb (la9 F nt) = ltN F nt ∧ la9 F nt ≤ 9 ∧ (if nt = 0 then 9 else nI (F (nt - 1))) = nI (la9 F nt) := by
  have h9 := h.h9
  unfold al la9 ltN
  by_cases h0 : nt = 0
  · simp only [if_pos h0]
    exact ⟨by rw [if_neg (by omega)], Nat.le_refl _, rfl⟩
  · have hF := h.hF (show nt - 1 < nt by omega)
    simp only [if_neg h0]
    exact ⟨by rw [if_pos hF], by omega, trivial⟩
theorem SP.ckk (h : SP s bw th cm hd ck zz kd lo se ah ru sg no ti sp nb nt K L E A R F) {kd' lo' : Nat → Int32} (hk : ∀ b, b < nb → kd' b = nI (K b) ∧ lo' b = nI (L b)) : CK kd' lo' nb K L := fun b hb => ⟨(hk b hb).1, (hk b hb).2, (h.cc hb).1, (h.cc hb).2.1⟩
theorem SP.LL (h : SP s bw th cm hd ck zz kd lo se ah ru sg no ti sp nb nt K L E A R F) : ∀ b, b < nb → L b ≤ 99 := fun b hb => (h.cc hb).2.1
/-- the value from the stage on: a number if there is a way, else none -/
theorem SP.val (h : SP s bw th cm hd ck zz kd lo se ah ru sg no ti sp nb nt K L E A R F) {B : Nat → Int32} {w : Nat} (hB : ∀ t, t < 2 ^ nb → t &&& stg F nt = stg F nt → blk B w K L A nb t) : (way A nb (stg F nt) = true → okv (B (10 * stg F nt + ltN F nt)) 512) ∧ (way A nb (stg F nt) = false → B (10 * stg F nt + ltN F nt) = NOTV) := by
  have h9 := h.h9
  have hc := h.c_lt
  constructor
  · intro hw
    exact ok_le (val_ok h9 h.LL hw hB 512 (stg F nt) (by omega) hc (good_c A _) _ h.lt_le).1 (by omega)
  · intro hw
    exact val_no h9 hc hw hB 512 (stg F nt) (by omega) (fun _ hi => hi) (fun i hi => wcl_sub hi) hc _ h.lt_le
theorem p_best (h : SP s bw th cm hd ck zz kd lo se ah ru sg no ti sp nb nt K L E A R F) (hf : FR f5 f6) (c3208 c3211 c3212 c3213 c3214 : Int32) (c3300 c3400 c3500 c3600 c3700 c3800 c3900 c5700 : Nat → Int32) (v1 : Int32) :
    ∃ r5 r6, X5_best f5 bw th cm kd lo ah sg c3208 c3211 c3212 c3213 c3214 c3300 c3400 c3500 c3600 c3700 c3800 c3900 v1 = some r5 ∧ X6_best s f6 c5700 v1 = some r6 ∧ r5.1 = r6.1 ∧ FR r5.2.1 r6.2.1 := by
  have h9 := h.h9
  have hc := h.c_lt
  unfold X5_best X6_best
  simp only [f5_0, f6_0, f5_3, f6_3, Option.bind_some, isIn_eq]
  cases hi : X5_isIn v1 0 1 with
  | false =>
    simp only [if_pos xbf]
    exact ⟨_, _, rfl, rfl, rfl, hf.up 0 (by decide)⟩
  | true =>
    obtain ⟨w, hw1, rfl⟩ := isIn_t (n := 1) (by decide) hi
    obtain ⟨kd', lo', ah', g1, g2, g3⟩ := h.start c3300 c3400 c3500
    obtain ⟨B, b1, b2⟩ := h.finds hw1 c5700
    obtain ⟨v1, v2⟩ := h.val b2
    obtain ⟨a1, a2, a3⟩ := h.ala
    simp only [if_neg xbt, g1, Option.bind_some, have_eq h9 g3 hc, b1]
    cases hw : way A nb (stg F nt) with
    | false =>
      have := v2 hw
      simp only [if_pos xbf, if_pos (show B (10 * stg F nt + ltN F nt) = (-99999999 : Int32) from this)]
      exact ⟨_, _, rfl, rfl, rfl, hf.up 3 (by decide)⟩
    | true =>
      obtain ⟨many, sco, M, fo, mt, w1, -, -⟩ := weigh_eq h9 (h.ckk g2) g3 hw1 hw b2 hc a2 c3208 c3600 c3700 c3800 c3900
      have hne : ¬ B (10 * stg F nt + ltN F nt) = -99999999 := ok_not (v1 hw) (by omega)
      rw [a1] at w1
      simp only [if_neg xbt, a3, w1, Option.bind_some, if_neg hne]
      rcases Nat.eq_zero_or_pos w with e | e
      · subst e
        simp only [if_neg (show ¬ nI 0 = (1 : Int32) by decide), if_pos (show nI 0 = (0 : Int32) from rfl)]
        exact ⟨_, _, rfl, rfl, rfl, hf⟩
      · have ew : w = 1 := by omega
        subst ew
        simp only [if_pos (show nI 1 = (1 : Int32) from rfl), if_neg (show ¬ nI 1 = (0 : Int32) by decide)]
        exact ⟨_, _, rfl, rfl, rfl, hf⟩
end
