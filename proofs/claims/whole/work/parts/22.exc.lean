/-! THROWS: four methods of the class throw, four of the law catch. -/
def ex_N : String := "java/util/NoSuchElementException"
def ex_up : List String := ["java/lang/RuntimeException", "java/lang/Exception"]
def ex_at : List Jvm.Cond := vx_at0 "TwoAtMost" 181 ex_N ex_up
def ex_ws : List Jvm.Cond := Jvm.Cond.classLink "TwoAtMost" 179 ex_N :: Jvm.Cond.initialized ex_N :: ex_at
def ex_all : List Jvm.Cond := Jvm.Cond.classLink "TwoAtMostLaw" 13 ex_N :: Jvm.Cond.castable ex_N ex_N :: ex_ws
def ex_mv (w : Jvm.Cond) : Bool := match w with
  | .declares _ => true
  | .castable _ _ => true
  | w => goodWord w
theorem ex_mvs : ∀ w ∈ ex_all, ex_mv w = true := List.all_eq_true.mp (by decide +kernel)
theorem ex_ots : ∀ w ∈ ex_ws, vx_ot w = true := List.all_eq_true.mp (by decide +kernel)
def ex_W (U : State) : Prop := ∀ w ∈ ex_all, va_Nw w U
theorem ex_mv_at {w : Jvm.Cond} (h : ex_mv w = true) {s U : State} (hW : s.WarmedH U.vm) (hz : va_Nw w s) : va_Nw w U := by
  unfold ex_mv at h
  split at h
  · exact va_Nw.warmD hW hz
  · exact va_Nw.warmC hW hz
  · exact word_at hW (good_of_word h) hz
theorem ex_mv_use {w : Jvm.Cond} (h : ex_mv w = true) {A : Array Value} {s : State} (hz : va_Nw w s) : w.before A s = true := by
  unfold ex_mv at h
  split at h
  · exact va_Nw.use rfl hz
  · exact va_Nw.use rfl hz
  · exact word_at (State.WarmedH.refl s) (good_of_word h) hz
theorem ex_W.warm {s U : State} (h : ex_W s) (hW : s.WarmedH U.vm) : ex_W U := fun w hw => ex_mv_at (ex_mvs w hw) hW (h w hw)
theorem ex_W.at {s : State} (h : ex_W s) {A : Array Value} {w : Jvm.Cond} (hw : w ∈ ex_all) : w.before A s = true := ex_mv_use (ex_mvs w hw) (h w hw)
def ex_Z (A : Nat → Prop) (U : State) (H : Heap) : Prop := vx_Zq Bundle.tN "UNASSIGNED_STACK" Bundle.steD A U H ∧ vx_Zq Bundle.tN "SUPPRESSED_SENTINEL" Bundle.listD A U H
def ex_kc (rv : Option Value) : Nat := if ci_thr rv = true then 1 else 0
def ex_ks (rv : Option Value) : Nat := if ci_thr rv = true then 6 else 0
def ex_Pc (b N : Nat) (xs : Nat → Int32) (D : va_G) (tys : List (ClassId × FieldType)) (ws : va_W) (sz : Nat) (av : List Value) : Array Value → State → Prop := fun a U => ci_Pc b N xs D ci_cls tys ws sz av a U ∧ ex_W U ∧ ex_Z (va_A ws sz) U U.heap
def ex_Qc (b : Nat) (D : va_G) (ws : va_W) (sz : Nat) (rv : Option Value) (h' : ci_H) (nx' : Nat) : Array Value → State → Outcome → State → Prop := fun a st o t => ci_thr rv = false ∧ ci_Qc b D ci_cls ws sz rv h' nx' a st o t
def ex_XC (b : Nat) (D : va_G) (ws : va_W) (sz : Nat) (rv : Option Value) (h' : ci_H) (nx' : Nat) : String → State → State → Prop := fun E st t => E = ex_N ∧ ci_thr rv = true ∧ (∃ (ws1 : va_W) (tys1 : List (ClassId × FieldType)), ci_Bh b D ci_cls ws sz h' nx' ws1 tys1 t) ∧ va_F (va_A ws sz) st t
theorem ex_blind {b N : Nat} {xs : Nat → Int32} {D : va_G} {tys : List (ClassId × FieldType)} {ws : va_W} {sz : Nat} {av : List Value} : FrameBlind (ex_Pc b N xs D tys ws sz av) := fun a U g mk q => by
  obtain ⟨q0, q1, q2, q3⟩ := q
  exact ⟨ci_blind a U g mk q0, ex_W.warm (U := U.calling g mk a) q1 (State.WarmedH.refl U), vx_Zq.moved (u := U) (U := U.calling g mk a) (Vm.Alike.refl U.vm) q2, vx_Zq.moved (u := U) (U := U.calling g mk a) (Vm.Alike.refl U.vm) q3⟩
set_option maxHeartbeats 4000000 in
/-- a method of the class, thrown or not -/
theorem ex_met {xs : Nat → Int32} {N : Nat} {l : Launch} (hl : l.stackTraces = false) {k d x : Nat} {vs : List Value} {h : ci_H} {nx : ci_N} {q : Option Value × ci_H × ci_N} (hrun : ci_run ci_Ms ci_cls ci_fty xs N k d x 0 (ci_entry vs (ci_n (ci_Ms x))) [] h nx = some q) (hC : ci_okC ci_T (ci_Ms x)) (hsl : (ci_sl vs).length ≤ ci_n (ci_Ms x)) (hd6 : 6 ≤ d)
    {D : va_G} {b : Nat} {tys : List (ClassId × FieldType)} {ws : va_W} {av : List Value} {sz : Nat} (hW : ci_W b tys h nx.1 ws) (hav : ci_vs (ci_ad b ws) vs av) (hb0 : b < sz) (hbA : ¬ va_A ws sz b) :
    vx_Met l (ci_y (ci_Ms x)) (ci_ws ci_T (ci_Ms x)) (ci_rm d (q.2.2.2.1 - nx.2.1 + ex_kc q.1) (q.2.2.2.2 - nx.2.2 + ex_ks q.1)) (ex_Pc b N xs D tys ws sz av) (ex_Qc b D ws sz q.1 q.2.1 q.2.2.1) (ex_XC b D ws sz q.1 q.2.1 q.2.2.1) (q.2.2.2.1 - nx.2.1 + ex_kc q.1) (q.2.2.2.2 - nx.2.2 + ex_ks q.1) (va_A ws sz) := by
  refine vx_ofW (cc := ci_b (ci_Ms x)) (maxL := ci_n (ci_Ms x)) (ret := ci_t (ci_Ms x)) hC.2.2.2.1 rfl ?_
  intro p e s m args below meth c s₁ B hml htb hv
  obtain ⟨⟨rfl, hsz, hP, hK, hD0, hX, hEs⟩, hexW, hexZ⟩ := hv
  subst hsz
  have hts := atoms_spec (ws := ci_ws ci_T (ci_Ms x)) B.pre
  have hown : s.vm.findClass (ci_y (ci_Ms x)).cls = some m.cls := findClass_of_methodNamed B.named
  have hmn : meth.name = (ci_y (ci_Ms x)).name := (name_of_methodNamed B.named B.method).1
  have hmono := ci_mono _ _ _ _ _ _ _ _ _ hrun
  rw [lg_entry_eq]
  refine ci_WAll (ct := ci_ct) (th := ci_th) (r := q) (ws0 := ws) (kc := ex_kc q.1) (ks := ex_ks q.1) ci_hMs ci_T_good B.exec B.bytes hml hmn hown (fun w hw => hts w (List.mem_cons_of_mem _ hw)) (A := va_A ws s.heap.size) (fun q hq => Or.inr hq) hX hb0 hbA hEs (d := d) (by show d + 1 ≤ d + 1; omega) (by show 40 * (d + 1) ≤ 40 * (d + 1); omega) ?_ ?_ (ci_no14_row hC.1) k (fun k' _ => ci_metAll ci_hMs ci_T_good k') 0 _ [] h nx ws tys s.heap [] 0 0 _ [] hrun ⟨hW, hK, hP, hD0.self, va_S.rf⟩ (fun _ _ z => z) (ci_entry_R hav hsl) rfl ?_ ?_
  · intro pcE lsE stE H1 locs1 cells1 slots1 ws1 tys1 i hd hret hR hE h1 h2
    have hnt : ci_thr q.1 = false := by
      unfold ci_retR at hret
      split at hret
      next e => rw [e]; rfl
      next e => rw [e]; rfl
      next e => rw [e]; rfl
      · exact hret.elim
    have h1 : cells1 + ex_kc q.1 ≤ q.2.2.2.1 - nx.2.1 + ex_kc q.1 := h1
    have h2 : slots1 + ex_ks q.1 ≤ q.2.2.2.2 - nx.2.2 + ex_ks q.1 := h2
    intro T hT X
    obtain ⟨t, a1, o, b1, b2, b3, b4⟩ := ci_end (mc := q.2.2.2.1 - nx.2.1 + ex_kc q.1) (ms := q.2.2.2.2 - nx.2.2 + ex_ks q.1) B.exec B.bytes B.returns B.notSynchronized hd hret hR hE (by omega) (by omega) T hT X
    exact ⟨t, a1, o, b1, b2, Or.inl ⟨⟨hnt, b3⟩, b4⟩⟩
  · intro pcE lsE stE SE H1 locs1 cells1 slots1 ws1 tys1 w hok h9 hr9 hls hSE hfw hR hE h1 h2
    have hth : ci_th (ci_Ms x) pcE w := by
      have h := hok.2
      rw [h9] at h
      exact h
    obtain ⟨e1, e2, e3, d3, d4, d7⟩ := hth
    have d0 := hok.1
    rw [e1, e2] at d0
    have hthr : ci_thr q.1 = true := by rw [hr9]; rfl
    have k1 : ex_kc q.1 = 1 := if_pos hthr
    have k2 : ex_ks q.1 = 6 := if_pos hthr
    have h1 : cells1 + ex_kc q.1 ≤ q.2.2.2.1 - nx.2.1 + ex_kc q.1 := h1
    have h2 : slots1 + ex_ks q.1 ≤ q.2.2.2.2 - nx.2.2 + ex_ks q.1 := h2
    rw [k1] at h1
    rw [k2] at h2
    have hfew : (stE.map fun v => v.category).sum ≤ 8 := by rw [hSE.cat]; exact ci_few_le hfw
    refine vx_throw0 (own := "TwoAtMost") (cls := ex_N) (names := ex_up) (ik := 179) (ic := 181) (A := va_A ws s.heap.size) B.exec B.bytes hl (by rw [← e3]; exact hown) (by decide +kernel) (by decide +kernel) (hexW.at (by simp [ex_all, ex_ws])) (hexW.at (by simp [ex_all, ex_ws])) (fun w hw => hexW.at (List.mem_cons_of_mem _ (List.mem_cons_of_mem _ (List.mem_cons_of_mem _ (List.mem_cons_of_mem _ hw))))) ex_ots hexZ.1 hexZ.2 hR.2.2.2.2 (hls.trans hml.symm) d0 d3 d4 d7 (fun z hz => (htb z hz).elim) ?_ ?_ ?_ ?_ B.notSynchronized ?_ hR.2.2.2.2.2.2 ?_ ?_
    · show 2 + 3 < d + 1
      omega
    · show (stE.map fun v => v.category).sum + (13 * (2 + 1) + 42) ≤ 40 * (d + 1)
      omega
    · show cells1 + 1 ≤ q.2.2.2.1 - nx.2.1 + ex_kc q.1
      rw [k1]; exact h1
    · show slots1 + 6 ≤ q.2.2.2.2 - nx.2.2 + ex_ks q.1
      rw [k2]; exact h2
    · intro t hal hsz hkeep
      obtain ⟨g1, g2, g3, g4, g5⟩ := hR
      refine ⟨rfl, hthr, ⟨ws1, tys1, hE, g1, g3.kept (fun k z hz => hkeep _ (vx_lt g3 hz)), va_K.moved hal g2, g4⟩, Nat.le_trans g5.1 hsz, fun z hz hn => ?_⟩
      rw [hkeep z (Nat.lt_of_lt_of_le hz g5.1)]
      exact g5.2.1 z hz hn
    · rw [k1]; exact h1
    · rw [k2]; exact h2
  · show 0 + q.2.2.2.1 + ex_kc q.1 ≤ q.2.2.2.1 - nx.2.1 + ex_kc q.1 + nx.2.1
    omega
  · show 0 + q.2.2.2.2 + ex_ks q.1 ≤ q.2.2.2.2 - nx.2.2 + ex_ks q.1 + nx.2.2
    omega
section EXC
variable {p : Program} {l : Launch} {e : Env} {R : Room} {s : State} {m : MethodId} {args : Array Value} {below : List Frame} {meth : Method} {c : Code} {H : Heap} {locs : List Loc} {cells slots : Nat} {Q : State → Prop}
variable {pc : Nat} {ls : Array Slot} {st0 rest : List Value} {D : va_G} {A : Nat → Prop} {tys : List (ClassId × FieldType)} {ws : va_W} {H0 : Heap} {b N : Nat} {xs : Nat → Int32} {h : ci_H} {nx : Nat}
/-- behind a call that may have thrown -/
theorem ex_after {mc ms : Nat} {a : Array Value} {rv : Option Value} {h' : ci_H} {nx' : Nat} (hr : vx_Run p l e R s m args below meth c H locs cells slots mc ms (F0 m pc ls st0) rest (ex_Qc b D ws H.size rv h' nx' a) (ex_XC b D ws H.size rv h' nx') (va_A ws H.size)) (hR : ci_R b D ci_cls s A H0 tys h nx ws H locs) (hA : ∀ q, H0.size ≤ q → A q)
    (kk : ∀ (H1 : Heap) (locs1 : List Loc) (ws1 : va_W) (tys1 : List (ClassId × FieldType)) (w : Option Value), ci_thr rv = false → ci_R b D ci_cls s A H0 tys1 h' nx' ws1 H1 locs1 → ci_ext (ci_ad b ws) (ci_ad b ws1) → ci_vo (ci_ad b ws1) rv w → W p l e R s m args below meth c H1 locs1 (cells + mc) (slots + ms) Q (F0 m (pc + 3) ls (w.toList ++ rest)))
    (kx : ∀ (H1 : Heap) (locs1 : List Loc) (ws1 : va_W) (tys1 : List (ClassId × FieldType)) (q9 : Addr) (ce : Cell), ci_thr rv = true → ci_R b D ci_cls s A H0 tys1 h' nx' ws1 H1 locs1 → ci_ext (ci_ad b ws) (ci_ad b ws1) → H1[q9]? = some ce → ce.vm = .none → s.vm.findClass ex_N = some ce.cls → vx_W p l e R s m args below meth c H1 locs1 (cells + mc) (slots + ms) Q (F0 m pc ls rest) q9) :
    W p l e R s m args below meth c H locs cells slots Q (F0 m pc ls st0) := by
  obtain ⟨hW, hK, hP, hD, hS⟩ := hR
  have hsub := ci_sub_A hD hS hA
  intro T hT X
  rcases hr T hT X with ⟨v, st₀, t, T', L, h0, X', hL, e1, e2, ⟨hnt, ⟨⟨w, ws1, tys1, hv, hvo, hx, g1, g2, g3, g4⟩, hz, hk⟩⟩, st⟩ | ⟨q9, st₀, t, T', L, E, ce, h0, X', hL, e1, e2, ⟨rfl, hthr, ⟨ws1, tys1, hx, g1, g2, g3, g4⟩, hz, hk⟩, hce, hcv, hcl, st⟩
  · cases hv
    rw [h0] at hz hk
    have hvm : s.vm.Alike t.vm := by rw [← e2]; exact X'.warmed.alike
    obtain ⟨t2, a1, b1⟩ := kk T'.heap (locs ++ L) ws1 tys1 v hnt ⟨g1, va_K.moved hvm.symm g3, by rw [e1]; exact g2, g4.weaken (fun _ q _ hq => hsub q.1 hq),
      Nat.le_trans hS.1 (by rw [e1]; exact hz), fun q h1 h2 => by rw [e1, hk q (Nat.lt_of_lt_of_le h1 hS.1) (fun z => h2 (hsub q z))]; exact hS.2.1 q h1 h2, fun q hq => by
        rcases List.mem_append.mp hq with h | h
        · exact hS.2.2 q h
        · exact hsub _ (hL q h)⟩ hx hvo T' rfl X'
    exact ⟨t2, st t2 a1, b1⟩
  · rw [h0] at hz hk
    have hvm : s.vm.Alike t.vm := by rw [← e2]; exact X'.warmed.alike
    obtain ⟨t2, a1, b1⟩ := kx T'.heap (locs ++ L) ws1 tys1 q9 ce hthr ⟨g1, va_K.moved hvm.symm g3, by rw [e1]; exact g2, g4.weaken (fun _ q _ hq => hsub q.1 hq),
      Nat.le_trans hS.1 (by rw [e1]; exact hz), fun q h1 h2 => by rw [e1, hk q (Nat.lt_of_lt_of_le h1 hS.1) (fun z => h2 (hsub q z))]; exact hS.2.1 q h1 h2, fun q hq => by
        rcases List.mem_append.mp hq with h | h
        · exact hS.2.2 q h
        · exact hsub _ (hL q h)⟩ hx (by rw [e1]; exact hce) hcv hcl T' rfl X'
    exact ⟨t2, st.trans a1, b1⟩
/-- a straight stretch, in the machine -/
theorem ci_goW {q : ci_Y} (hMq : ck_M q) (hx : p.tables.exec = Jvm.exec) (hb : c.code = ci_b q) (hown : s.vm.findClass (ci_y q).cls = some m.cls) (hts : ∀ w ∈ ci_T, w.before args s = true) {ad : Nat → Option Nat} {nL pc' : Nat} {L' S' : List Value} : ∀ (k pc : Nat) (L S : List Value) (ls : Array Slot) (st : List Value), ci_go (ci_code q) k (pc, L, S) = some (pc', L', S') → ci_L ad L ls nL → ci_vs ad S st →
    (∀ (ls' : Array Slot) (st' : List Value), ci_L ad L' ls' nL → ci_vs ad S' st' → W p l e R s m args below meth c H locs cells slots Q (F0 m pc' ls' st')) → W p l e R s m args below meth c H locs cells slots Q (F0 m pc ls st) := by
  intro k
  induction k with
  | zero => intro pc L S ls st hg hL hS kk; cases hg; exact kk _ _ hL hS
  | succ k ih =>
    intro pc L S ls st hg hL hS kk
    unfold ci_go at hg
    split at hg
    next i len v x y g hcode =>
      have hok := hMq pc _ hcode
      have hd : decode (ci_b q) pc = .ok (i, len) := hok.1
      have hk := hok.2
      split at hg
      · split at hg
        next S2 hs => exact ci_sim1 hx hb hown hd (ci_ok1T.at hts hk) hs hL hS (fun st' h' => ih _ _ _ _ _ hg hL h' kk)
        · cases hg
      · split at hg
        next q2 hs => exact ci_sim2 hx hb hd hk hs hL hS (fun ls' st' h' h'' => ih _ _ _ _ _ hg h' h'' kk)
        · cases hg
      · split at hg
        next q2 hs => exact ci_sim3 hx hb hd hk hs hS (fun st' h' => ih _ _ _ _ _ hg hL h' kk)
        · cases hg
      · cases hg
    · cases hg
end EXC
