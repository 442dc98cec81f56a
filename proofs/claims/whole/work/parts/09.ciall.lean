/-! THE CLEAN INTERPRETER, part 7: a frame's whole run; every method is met. -/
section CIA
variable {Ms : Nat → ci_Y} {Ts : List Jvm.Cond} {cl : List vw_C} {fty : Nat → Nat → FieldType} {xs : Nat → Int32} {N : Nat} {ct th : ci_Y → Nat → ci_I → Prop}
variable {p : Program} {l : Launch} {e : Env} {R : Room} {s : State} {m : MethodId} {args : Array Value} {below : List Frame} {meth : Method} {c : Code} {Q : State → Prop} {D : va_G} {A : Nat → Prop} {b : Nat}
set_option maxHeartbeats 8000000 in
theorem ci_WAll (hMs : ∀ (M pc : Nat) (w : ci_I), (ci_code (Ms M))[pc]? = some (some w) → ci_ok Ms Ts cl fty ct th (Ms M) pc w) (hgood : ∀ w ∈ Ts, (w.onTables && w.keeps) = true ∨ ∃ ty, w = Jvm.Cond.arrayClass ty) {M : Nat} (hx : p.tables.exec = Jvm.exec) (hb : c.code = ci_b (Ms M)) (hml : c.maxLocals = ci_n (Ms M)) (hmn : meth.name = (ci_y (Ms M)).name) (hown : s.vm.findClass (ci_y (Ms M)).cls = some m.cls) (hts : ∀ w ∈ Ts, w.before args s = true) (hA : ∀ q, s.heap.size ≤ q → A q) (hX : va_X b N xs s s.heap) (hbl : b < s.heap.size) (hbA : ¬ A b) (hEs : ci_E s)
    {d : Nat} (hfr : d + 1 ≤ R.frames) (hlo : 40 * (d + 1) ≤ R.locals) {r : Option Value × ci_H × ci_N} {ws0 : va_W} {kc ks : Nat}
    (hend : ∀ (pcE : Nat) (lsE : Array Slot) (stE : List Value) (H1 : Heap) (locs1 : List Loc) (cells1 slots1 : Nat) (ws1 : va_W) (tys1 : List (ClassId × FieldType)) (i : Instr), decode (ci_b (Ms M)) pcE = .ok (i, 1) → ci_retR (ci_t (Ms M)) i r.1 stE → ci_R b D cl s A s.heap tys1 r.2.1 r.2.2.1 ws1 H1 locs1 → ci_ext (ci_ad b ws0) (ci_ad b ws1) → cells1 + kc ≤ R.cells → slots1 + ks ≤ R.slots → W p l e R s m args below meth c H1 locs1 cells1 slots1 Q (F0 m pcE lsE stE))
    (hthr : ∀ (pcE : Nat) (lsE : Array Slot) (stE SE : List Value) (H1 : Heap) (locs1 : List Loc) (cells1 slots1 : Nat) (ws1 : va_W) (tys1 : List (ClassId × FieldType)) (w : ci_I), ci_ok Ms Ts cl fty ct th (Ms M) pcE w → w.2.2.2.2.2 = 9 → r.1 = some (.retAddr 1) → lsE.size = ci_n (Ms M) → ci_vs (ci_ad b ws1) SE stE → ci_few SE = true → ci_R b D cl s A s.heap tys1 r.2.1 r.2.2.1 ws1 H1 locs1 → ci_ext (ci_ad b ws0) (ci_ad b ws1) → cells1 + kc ≤ R.cells → slots1 + ks ≤ R.slots → W p l e R s m args below meth c H1 locs1 cells1 slots1 Q (F0 m pcE lsE stE))
    (h14 : ci_Row14 Ms cl fty xs N p l e R s m args below meth c Q D A b M d) :
    ∀ (n : Nat), (∀ k, k < n → ci_MetAll Ms Ts cl fty xs N k) → ∀ (pc : Nat) (L S : List Value) (h : ci_H) (nx : ci_N) (ws : va_W) (tys : List (ClassId × FieldType)) (H : Heap) (locs : List Loc) (cells slots : Nat) (ls : Array Slot) (st : List Value), ci_run Ms cl fty xs N n d M pc L S h nx = some r → ci_R b D cl s A s.heap tys h nx.1 ws H locs → ci_ext (ci_ad b ws0) (ci_ad b ws) → ci_L (ci_ad b ws) L ls (ci_n (Ms M)) → ci_vs (ci_ad b ws) S st → cells + r.2.2.2.1 + kc ≤ R.cells + nx.2.1 → slots + r.2.2.2.2 + ks ≤ R.slots + nx.2.2 → W p l e R s m args below meth c H locs cells slots Q (F0 m pc ls st) := by
  intro n
  induction n with
  | zero => intro _ pc L S h nx ws tys H locs cells slots ls st hr; cases hr
  | succ n ih =>
    intro hM pc L S h nx ws tys H locs cells slots ls st hr hR hE hL hS hc1 hc2
    have ih := ih (fun k hk => hM k (Nat.lt_succ_of_lt hk))
    have hMn := hM n (Nat.lt_succ_self n)
    have hmm := ci_mono _ _ _ _ _ _ _ _ _ hr
    unfold ci_run at hr
    split at hr
    next i len v x y g hcode =>
      have hok := hMs M pc _ hcode
      have hd : decode (ci_b (Ms M)) pc = .ok (i, len) := hok.1
      have hk := hok.2
      split at hr
      · split at hr
        next S' hst => exact ci_sim1 hx hb hown hd (ci_ok1T.at hts hk) hst hL hS (fun st' h' => ih _ _ _ _ _ _ _ _ _ _ _ _ _ hr hR hE hL h' hc1 hc2)
        · cases hr
      · split at hr
        next q hst => exact ci_sim2 hx hb hd hk hst hL hS (fun ls' st' h' h'' => ih _ _ _ _ _ _ _ _ _ _ _ _ _ hr hR hE h' h'' hc1 hc2)
        · cases hr
      · split at hr
        next q hst => exact ci_sim3 hx hb hd hk hst hS (fun st' h' => ih _ _ _ _ _ _ _ _ _ _ _ _ _ hr hR hE hL h' hc1 hc2)
        · cases hr
      · split at hr
        next S' hst => exact ci_sim4 hx hb hown hts hd hk hst hR.1 hR.2.1 hR.2.2.1 hR.2.2.2.2 hX hbl hbA hS (fun st' h' => ih _ _ _ _ _ _ _ _ _ _ _ _ _ hr hR hE hL h' hc1 hc2)
        · cases hr
      · split at hr
        next q hst => exact ci_sim5 hx hb (hml.trans hL.1.symm) (fun z => hmn.trans (of_decide_eq_true z)) hown hts (by omega) (by omega) hd hk hst hR hS (fun H1 locs1 ws1 st' g1 g2 g3 => ih _ _ _ _ _ _ _ _ _ _ _ _ _ hr g1 (fun k a z => g2 _ _ (hE k a z)) (hL.ext g2) g3 hc1 hc2)
        · cases hr
      · split at hr
        next q hst =>
          have h6 := ci_st6_mono hst
          have h7 := ci_mono _ _ _ _ _ _ _ _ _ hr
          exact ci_sim6 (nx' := q.2.2) hx hb hown hts hEs hd hk hst hR hA hS (by omega) (by omega) (fun H1 cells1 slots1 ws1 tys1 st' g1 g2 g3 g4 g5 => ih _ _ _ _ _ _ _ _ _ _ _ _ _ hr g1 (fun k a z => g2 _ _ (hE k a z)) (hL.ext g2) g3 (by omega) (by omega))
        · cases hr
      · split at hr
        next rv hst =>
          cases hr
          have hk : len = 1 := hk
          subst hk
          exact hend pc ls st H locs cells slots ws tys i hd (ci_ret_R hst hS) hR hE (by omega) (by omega)
        · cases hr
      · split at hr
        next hfw =>
          cases hr
          exact hthr pc ls st S H locs cells slots ws tys _ hok rfl rfl hL.1 hS hfw hR hE (by omega) (by omega)
        · cases hr
      · split at hr
        next S' hst =>
          obtain ⟨hl3, ix, hii, k1, k2, k3⟩ := hk
          have hl3 : len = 3 := hl3
          subst hl3
          have hii : i = _ := hii
          subst hii
          unfold ci_oi at hst
          split at hst
          next k0 r0 =>
            split at hst
            next hfew =>
              cases hst
              obtain ⟨a, st1, had, rfl, h1⟩ := ci_vs_r hS
              refine W.objInit hx hb hown (hts _ k1) (hts _ k2) (hts _ k3) rfl (hL.1.trans hml.symm) rfl hd (by omega) ?_ (ih _ _ _ _ _ _ _ _ _ _ _ _ _ hr hR hE hL h1 hc1 hc2)
              have := lv_room (m := m) (pc := pc) (ls := ls) (rest := .ref a :: st1) (st := st1) (by rw [h1.cat]; exact hfew)
              omega
            · cases hst
          · cases hst
        · cases hr
      · split at hr
        next S' hst => exact ci_simX hx hb (hml.trans hL.1.symm) hown hts (by omega) (by omega) (by omega) (by omega) hd hk hst hS (fun st' h' => ih _ _ _ _ _ _ _ _ _ _ _ _ _ hr hR hE hL h' hc1 hc2)
        · cases hr
      · rcases d with _ | _ | d'
        · cases hr
        · cases hr
        · dsimp only at hr
          split at hr
          next o S1 =>
            split at hr
            next hcnd =>
              split at hr
              next q hq =>
                split at hr
                next u hu =>
                  have h7 := ci_mono _ _ _ _ _ _ _ _ _ hr
                  have h8 := ci_mono _ _ _ _ _ _ _ _ _ hq
                  have h9 := ci_cat_mono hu
                  exact h14 n pc d' o len x y i v S1 h nx q u ws tys H locs cells slots ls st hcode rfl hcnd.1 hcnd.2.1 hcnd.2.2.1 hcnd.2.2.2.1 hcnd.2.2.2.2 hq hu hR hS hL.1 (by omega) (by omega) (fun H1 locs1 cells1 slots1 ws1 tys1 st' g1 g2 g3 g4 g5 => ih _ _ _ _ _ _ _ _ _ _ _ _ _ hr g1 (fun k a z => g2 _ _ (hE k a z)) (hL.ext g2) g3 (by omega) (by omega))
                · cases hr
              · cases hr
            · cases hr
          · cases hr
      next hn1 hn2 hn3 hn4 hn5 hn6 hn8 hn9 hn10 hn15 hn14 =>
        split at hr
        · cases hr
        next d' =>
          split at hr
          next hcnd =>
            split at hr
            next q hq =>
              split at hr
              · cases hr
              next hth =>
                have h7 := ci_mono _ _ _ _ _ _ _ _ _ hr
                have h8 := ci_mono _ _ _ _ _ _ _ _ _ hq
                exact ci_simC (ct := ct) (th := th) (fun z => hn14 z) hgood hx hb hml hown hts hA hX hbl hbA hEs (by omega) (by omega) hMn hok hcnd.1 hcnd.2.1 hcnd.2.2.1 hcnd.2.2.2 hq (by simpa using hth) hR hS hL.1 (by omega) (by omega) (fun H1 locs1 cells1 slots1 ws1 tys1 st' g1 g2 g3 g4 g5 => ih _ _ _ _ _ _ _ _ _ _ _ _ _ hr g1 (fun k a z => g2 _ _ (hE k a z)) (hL.ext g2) g3 (by omega) (by omega))
            · cases hr
          · cases hr
    · cases hr
end CIA
section CIB
variable {Ms : Nat → ci_Y} {Ts : List Jvm.Cond} {cl : List vw_C} {fty : Nat → Nat → FieldType} {xs : Nat → Int32} {N : Nat} {ct th : ci_Y → Nat → ci_I → Prop}
theorem ci_no14_row {p : Program} {l : Launch} {e : Env} {R : Room} {s : State} {m : MethodId} {args : Array Value} {below : List Frame} {meth : Method} {c : Code} {Q : State → Prop} {D : va_G} {A : Nat → Prop} {b M d : Nat} (h : ci_no14 (Ms M) = true) : ci_Row14 Ms cl fty xs N p l e R s m args below meth c Q D A b M d := by
  intro k pc d' o len x y i v S1 h0 nx q u ws tys H locs cells slots ls st hcode
  have := List.all_eq_true.mp h _ (List.mem_of_getElem? hcode)
  simp at this
/-- how a method ends that doesn't throw -/
theorem ci_end {p : Program} {l : Launch} {e : Env} {R : Room} {s : State} {m : MethodId} {args : Array Value} {below : List Frame} {meth : Method} {c : Code} {D : va_G} {b : Nat} {cc : ByteArray} {t : Option FieldType} (hx : p.tables.exec = Jvm.exec) (hb : c.code = cc) (hr : meth.sig.returnType = t) (hlocks : meth.locks = false) {ws0 ws1 : va_W} {tys1 : List (ClassId × FieldType)} {rv : Option Value} {h' : ci_H} {nx' mc ms : Nat} {pcE : Nat} {lsE : Array Slot} {stE : List Value} {H1 : Heap} {locs1 : List Loc} {cells1 slots1 : Nat} {i : Instr} (hd : decode cc pcE = .ok (i, 1)) (hret : ci_retR t i rv stE) (hR : ci_R b D cl s (va_A ws0 s.heap.size) s.heap tys1 h' nx' ws1 H1 locs1) (hE : ci_ext (ci_ad b ws0) (ci_ad b ws1)) (h1 : cells1 ≤ mc) (h2 : slots1 ≤ ms) :
    W p l e R s m args below meth c H1 locs1 cells1 slots1 (MQ below (ci_Qc b D cl ws0 s.heap.size rv h' nx') args s mc ms (va_A ws0 s.heap.size)) (F0 m pcE lsE stE) := by
  refine W.widen h1 h2 ?_
  obtain ⟨g1, g2, g3, g4, g5⟩ := hR
  have post : ∀ (w : Option Value), ci_vo (ci_ad b ws1) rv w → ∀ t : State, t.heap = H1 → s.WarmedH t.vm → ci_Qc b D cl ws0 s.heap.size rv h' nx' args s (.returned w) t := fun w hw t ht hW =>
    ⟨⟨w, ws1, tys1, rfl, hw, hE, g1, by rw [ht]; exact g3, va_K.moved hW.alike g2, g4⟩, g5.F ht⟩
  cases rv with
  | none =>
    obtain ⟨rfl, rfl, rfl⟩ := hret
    exact W.vret hx hb hr (post none rfl) g5.2.2 hd hlocks
  | some v =>
    cases v with
    | int v =>
      obtain ⟨rfl, rfl, ht | ⟨ht, hv⟩⟩ := hret
      · subst ht
        exact W.iret hx hb hr (post _ ⟨_, rfl, rfl⟩) g5.2.2 hd hlocks
      · subst ht
        exact W.zret hx hb hr (by rcases hv with rfl | rfl <;> rfl) (post _ ⟨_, rfl, rfl⟩) g5.2.2 hd hlocks
    | long v =>
      obtain ⟨rfl, rfl, rfl⟩ := hret
      exact W.lret hx hb hr (post _ ⟨_, rfl, rfl⟩) g5.2.2 hd hlocks
    | _ => exact hret.elim
theorem ci_metAll (hMs : ∀ (M pc : Nat) (w : ci_I), (ci_code (Ms M))[pc]? = some (some w) → ci_ok Ms Ts cl fty ct th (Ms M) pc w) (hgood : ∀ w ∈ Ts, (w.onTables && w.keeps) = true ∨ ∃ ty, w = Jvm.Cond.arrayClass ty) : ∀ n : Nat, ci_MetAll Ms Ts cl fty xs N n := by
  intro n
  induction n using Nat.strongRecOn with
  | ind n ih =>
    intro d M vs h nx r hrun hthr hC hsl l D b tys ws av sz hW hav hb0 hbA
    refine Met.ofW (cc := ci_b (Ms M)) (maxL := ci_n (Ms M)) (ret := ci_t (Ms M)) hC.2.2.2.1 rfl ?_
    intro p e s m args below meth c s₁ B hml hv
    obtain ⟨rfl, hsz, hP, hK, hD0, hX, hEs⟩ := hv
    subst hsz
    have hts := atoms_spec (ws := ci_ws Ts (Ms M)) B.pre
    have hown : s.vm.findClass (ci_y (Ms M)).cls = some m.cls := findClass_of_methodNamed B.named
    have hmn : meth.name = (ci_y (Ms M)).name := (name_of_methodNamed B.named B.method).1
    have hmono := ci_mono _ _ _ _ _ _ _ _ _ hrun
    rw [lg_entry_eq]
    refine ci_WAll (ct := ct) (th := th) (r := r) (ws0 := ws) (kc := 0) (ks := 0) hMs hgood B.exec B.bytes hml hmn hown (fun w hw => hts w (List.mem_cons_of_mem _ hw)) (A := va_A ws s.heap.size) (fun q hq => Or.inr hq) hX hb0 hbA hEs (d := d) (by show d + 1 ≤ d + 1; omega) (by show 40 * (d + 1) ≤ 40 * (d + 1); omega) ?_ ?_ (ci_no14_row hC.1) n (fun k hk => ih k hk) 0 _ [] h nx ws tys s.heap [] 0 0 _ [] hrun ⟨hW, hK, hP, hD0.self, va_S.rf⟩ (fun _ _ z => z) (ci_entry_R hav hsl) rfl ?_ ?_
    · intro pcE lsE stE H1 locs1 cells1 slots1 ws1 tys1 i hd hret hR hE h1 h2
      exact ci_end B.exec B.bytes B.returns B.notSynchronized hd hret hR hE h1 h2
    · intro pcE lsE stE SE H1 locs1 cells1 slots1 ws1 tys1 w _ _ hr9
      rw [hr9] at hthr
      cases hthr
    · show 0 + r.2.2.2.1 + 0 ≤ r.2.2.2.1 - nx.2.1 + nx.2.1
      omega
    · show 0 + r.2.2.2.2 + 0 ≤ r.2.2.2.2 - nx.2.2 + nx.2.2
      omega
end CIB
