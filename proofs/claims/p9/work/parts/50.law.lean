
/-! THE CLAIM OUT OF ONE WALK OF THE LAW'S BODY. Your part is whole_start (and what it stands on); all else here is the same for every law, but numbers. -/
def R_law : String := "FloorQueueLaw"
def lw_P (b : Addr) (xs : List Int32) (args : Array Value) (s : State) : Prop := args = #[.ref b] ∧ s.IntsAt b xs ∧ xs.length ≤ 2051 ∧ (Jvm.Cond.and given_1 narrow_1).before args s = true
def lw_Q (_ : Array Value) (s : State) (o : Outcome) (t : State) : Prop := o = .returned (some (.int 1)) ∧ Framed s o t [] 600000 7302249
def lw_Z (below : List Frame) (a : Array Value) (s : State) : State → Prop := fun t => ∃ o, t.status = .running ∧ Ended t below o ∧ lw_Q a s o t
/-- the law's own end, with 1 on the stack, nothing written that was there before, its room as the claim has it -/
theorem lw_ret {p : Program} {l : Launch} {e : Env} {s : State} {m : MethodId} {below : List Frame} {meth : Method} {c : Code} {b : Nat} (hx : p.tables.exec = Jvm.exec) (hb : c.code = code) (hr : meth.sig.returnType = ret) (hlocks : meth.locks = false) {pc : Nat} {H : Heap} {ls : Array Slot} (hdg : decode code pc = .ok (.ireturn, 1)) : W p l e room_1 s m #[Value.ref b] below meth c H [] 600000 7302249 (lw_Z below #[Value.ref b] s) (F0 m pc ls [.int 1]) := by
  intro T hT X
  obtain ⟨fs, hret, hrun, hended, hW, hframe⟩ := X.leave (v := some (.int 1)) (hlocks := hlocks) (fun h => by rw [hr] at h; cases h)
  have hmeth' : T.vm.method? m = some meth := X.method'
  refine ⟨T.setFrames fs, ?_, .returned (some (.int 1)), hrun, hended, rfl, ⟨_, rfl⟩, hW, hframe⟩
  jvm_step X.here [X.here.top, hx, hb, hdg, hmeth', hr, ret, narrow_b1]
  (try refine ⟨rfl, ?_⟩); (try refine ⟨rfl, ?_⟩)
  first | (intro acts; rw [hret _ acts rfl rfl rfl]) | rw [hret _ _ rfl rfl rfl]
  exact Steps.refl _
/-- what holds at the law's entry: the machine, the code, the tables' words (any of lw_tbl by 'hts w (by decide +kernel)'), the script of L ints xs at the cell b, what the Statement gives of the start (any of its parts by flat_of_before) -/
def lw_At (p : Program) (s : State) (m : MethodId) (meth : Method) (c : Code) (b L : Nat) (xs : Nat → Int32) : Prop :=
  p.tables.exec = Jvm.exec ∧ c.code = code ∧ meth.sig.returnType = ret ∧ c.maxLocals = 4 ∧ s.vm.findClass R_law = some m.cls ∧ (∀ w ∈ lw_tbl, w.before #[Value.ref b] s = true) ∧ va_X b L xs s s.heap ∧ b < s.heap.size ∧ meth.locks = false ∧ (Jvm.Cond.and given_1 narrow_1).before #[Value.ref b] s = true
theorem cw_RL_21 {R : Room} {s : State} {args : Array Value} {rm : Room} (hts : ∀ w ∈ wsL_law, w.before args s = true) (hR : rm.frames + 1 ≤ R.frames ∧ 8 + (3 + 11) + rm.locals ≤ R.locals) : CallW R s args RL RX1 21 yX1_push cX1_push 3 (some .int) (Cond.code yX1_push cX1_push 3 (some .int) :: wsL_law) rm rm.cells rm.slots 2 := cwV 2 hts (km_app (km_four km_59 km_60 km_61 km_2) (km_in km_62)) rfl rfl rfl (by decide +kernel) hR
theorem cw_RL_25 {R : Room} {s : State} {args : Array Value} {rm : Room} (hts : ∀ w ∈ wsL_law, w.before args s = true) (hR : rm.frames + 1 ≤ R.frames ∧ 8 + (3 + 11) + rm.locals ≤ R.locals) : CallW R s args RL RX2 25 yX2_push cX2_push 3 (some .int) (Cond.code yX2_push cX2_push 3 (some .int) :: wsL_law) rm rm.cells rm.slots 2 := cwV 2 hts (km_app (km_four km_92 km_93 km_94 km_5) (km_in km_95)) rfl rfl rfl (by decide +kernel) hR
theorem cw_RL_26 {R : Room} {s : State} {args : Array Value} {rm : Room} (hts : ∀ w ∈ wsL_law, w.before args s = true) (hR : rm.frames + 1 ≤ R.frames ∧ 8 + (3 + 11) + rm.locals ≤ R.locals) : CallW R s args RL RX1 26 yX1_lower cX1_lower 3 (some .int) (Cond.code yX1_lower cX1_lower 3 (some .int) :: wsL_law) rm rm.cells rm.slots 2 := cwV 2 hts (km_app (km_four km_102 km_103 km_104 km_2) (km_in km_105)) rfl rfl rfl (by decide +kernel) hR
theorem cw_RL_29 {R : Room} {s : State} {args : Array Value} {rm : Room} (hts : ∀ w ∈ wsL_law, w.before args s = true) (hR : rm.frames + 1 ≤ R.frames ∧ 8 + (3 + 11) + rm.locals ≤ R.locals) : CallW R s args RL RX2 29 yX2_lower cX2_lower 3 (some .int) (Cond.code yX2_lower cX2_lower 3 (some .int) :: wsL_law) rm rm.cells rm.slots 2 := cwV 2 hts (km_app (km_four km_106 km_107 km_108 km_5) (km_in km_109)) rfl rfl rfl (by decide +kernel) hR
theorem cw_RL_30 {R : Room} {s : State} {args : Array Value} {rm : Room} (hts : ∀ w ∈ wsL_law, w.before args s = true) (hR : rm.frames + 1 ≤ R.frames ∧ 8 + (3 + 11) + rm.locals ≤ R.locals) : CallW R s args RL RX1 30 yX1_pop cX1_pop 3 (some .int) (Cond.code yX1_pop cX1_pop 3 (some .int) :: wsL_law) rm rm.cells rm.slots 0 := cwV 0 hts (km_app (km_four km_117 km_118 km_119 km_2) (km_in km_120)) rfl rfl rfl (by decide +kernel) hR
theorem cw_RL_34 {R : Room} {s : State} {args : Array Value} {rm : Room} (hts : ∀ w ∈ wsL_law, w.before args s = true) (hR : rm.frames + 1 ≤ R.frames ∧ 8 + (4 + 11) + rm.locals ≤ R.locals) : CallW R s args RL RX2 34 yX2_pop cX2_pop 4 (some .int) (Cond.code yX2_pop cX2_pop 4 (some .int) :: wsL_law) rm rm.cells rm.slots 0 := cwV 0 hts (km_app (km_four km_137 km_138 km_139 km_5) (km_in km_140)) rfl rfl rfl (by decide +kernel) hR
theorem cw_RL_35 {R : Room} {s : State} {args : Array Value} {rm : Room} (hts : ∀ w ∈ wsL_law, w.before args s = true) (hR : rm.frames + 1 ≤ R.frames ∧ 8 + (1 + 11) + rm.locals ≤ R.locals) : CallW R s args RL RX1 35 yX1_floor cX1_floor 1 (some .int) (Cond.code yX1_floor cX1_floor 1 (some .int) :: wsL_law) rm rm.cells rm.slots 0 := cwV 0 hts (km_app (km_four km_141 km_142 km_143 km_2) (km_in km_144)) rfl rfl rfl (by decide +kernel) hR
theorem cw_RL_38 {R : Room} {s : State} {args : Array Value} {rm : Room} (hts : ∀ w ∈ wsL_law, w.before args s = true) (hR : rm.frames + 1 ≤ R.frames ∧ 8 + (1 + 11) + rm.locals ≤ R.locals) : CallW R s args RL RX2 38 yX2_floor cX2_floor 1 (some .int) (Cond.code yX2_floor cX2_floor 1 (some .int) :: wsL_law) rm rm.cells rm.slots 0 := cwV 0 hts (km_app (km_four km_145 km_146 km_147 km_5) (km_in km_148)) rfl rfl rfl (by decide +kernel) hR
theorem cw_RL_39 {R : Room} {s : State} {args : Array Value} {rm : Room} (hts : ∀ w ∈ wsL_law, w.before args s = true) (hR : rm.frames + 1 ≤ R.frames ∧ 8 + (1 + 11) + rm.locals ≤ R.locals) : CallW R s args RL RX1 39 yX1_size cX1_size 1 (some .int) (Cond.code yX1_size cX1_size 1 (some .int) :: wsL_law) rm rm.cells rm.slots 0 := cwV 0 hts (km_app (km_four km_149 km_150 km_151 km_2) (km_in km_152)) rfl rfl rfl (by decide +kernel) hR
theorem cw_RL_42 {R : Room} {s : State} {args : Array Value} {rm : Room} (hts : ∀ w ∈ wsL_law, w.before args s = true) (hR : rm.frames + 1 ≤ R.frames ∧ 8 + (3 + 11) + rm.locals ≤ R.locals) : CallW R s args RL RX2 42 yX2_size cX2_size 3 (some .int) (Cond.code yX2_size cX2_size 3 (some .int) :: wsL_law) rm rm.cells rm.slots 0 := cwV 0 hts (km_app (km_four km_153 km_154 km_155 km_5) (km_in km_156)) rfl rfl rfl (by decide +kernel) hR
theorem cw_RL_43 {R : Room} {s : State} {args : Array Value} {rm : Room} (hts : ∀ w ∈ wsL_law, w.before args s = true) (hR : rm.frames + 1 ≤ R.frames ∧ 8 + (2 + 11) + rm.locals ≤ R.locals) : CallW R s args RL RX1 43 yX1_key cX1_key 2 (some .int) (Cond.code yX1_key cX1_key 2 (some .int) :: wsL_law) rm rm.cells rm.slots 1 := cwV 1 hts (km_app (km_four km_157 km_158 km_159 km_2) (km_in km_160)) rfl rfl rfl (by decide +kernel) hR
theorem cw_RL_47 {R : Room} {s : State} {args : Array Value} {rm : Room} (hts : ∀ w ∈ wsL_law, w.before args s = true) (hR : rm.frames + 1 ≤ R.frames ∧ 8 + (2 + 11) + rm.locals ≤ R.locals) : CallW R s args RL RX2 47 yX2_key cX2_key 2 (some .int) (Cond.code yX2_key cX2_key 2 (some .int) :: wsL_law) rm rm.cells rm.slots 1 := cwV 1 hts (km_app (km_four km_161 km_162 km_163 km_5) (km_in km_164)) rfl rfl rfl (by decide +kernel) hR
theorem cw_RL_48 {R : Room} {s : State} {args : Array Value} {rm : Room} (hts : ∀ w ∈ wsL_law, w.before args s = true) (hR : rm.frames + 1 ≤ R.frames ∧ 8 + (2 + 11) + rm.locals ≤ R.locals) : CallW R s args RL RX1 48 yX1_bucket cX1_bucket 2 (some .int) (Cond.code yX1_bucket cX1_bucket 2 (some .int) :: wsL_law) rm rm.cells rm.slots 1 := cwV 1 hts (km_app (km_four km_165 km_166 km_167 km_2) (km_in km_168)) rfl rfl rfl (by decide +kernel) hR
theorem cw_RL_51 {R : Room} {s : State} {args : Array Value} {rm : Room} (hts : ∀ w ∈ wsL_law, w.before args s = true) (hR : rm.frames + 1 ≤ R.frames ∧ 8 + (2 + 11) + rm.locals ≤ R.locals) : CallW R s args RL RX2 51 yX2_bucket cX2_bucket 2 (some .int) (Cond.code yX2_bucket cX2_bucket 2 (some .int) :: wsL_law) rm rm.cells rm.slots 1 := cwV 1 hts (km_app (km_four km_169 km_170 km_171 km_5) (km_in km_172)) rfl rfl rfl (by decide +kernel) hR
theorem cw_RL_52 {R : Room} {s : State} {args : Array Value} {rm : Room} (hts : ∀ w ∈ wsL_law, w.before args s = true) (hR : rm.frames + 1 ≤ R.frames ∧ 8 + (2 + 11) + rm.locals ≤ R.locals) : CallW R s args RL RX1 52 yX1_many cX1_many 2 (some .int) (Cond.code yX1_many cX1_many 2 (some .int) :: wsL_law) rm rm.cells rm.slots 1 := cwV 1 hts (km_app (km_four km_173 km_174 km_175 km_2) (km_in km_176)) rfl rfl rfl (by decide +kernel) hR
theorem cw_RL_55 {R : Room} {s : State} {args : Array Value} {rm : Room} (hts : ∀ w ∈ wsL_law, w.before args s = true) (hR : rm.frames + 1 ≤ R.frames ∧ 8 + (4 + 11) + rm.locals ≤ R.locals) : CallW R s args RL RX2 55 yX2_many cX2_many 4 (some .int) (Cond.code yX2_many cX2_many 4 (some .int) :: wsL_law) rm rm.cells rm.slots 1 := cwV 1 hts (km_app (km_four km_177 km_178 km_179 km_5) (km_in km_180)) rfl rfl rfl (by decide +kernel) hR
theorem cw_RL_56 {R : Room} {s : State} {args : Array Value} {rm : Room} (hts : ∀ w ∈ wsL_law, w.before args s = true) (hR : rm.frames + 1 ≤ R.frames ∧ 8 + (1 + 11) + rm.locals ≤ R.locals) : CallW R s args RL RX1 56 yX1_placed cX1_placed 1 (some .int) (Cond.code yX1_placed cX1_placed 1 (some .int) :: wsL_law) rm rm.cells rm.slots 0 := cwV 0 hts (km_app (km_four km_181 km_182 km_183 km_2) (km_in km_184)) rfl rfl rfl (by decide +kernel) hR
theorem cw_RL_59 {R : Room} {s : State} {args : Array Value} {rm : Room} (hts : ∀ w ∈ wsL_law, w.before args s = true) (hR : rm.frames + 1 ≤ R.frames ∧ 8 + (1 + 11) + rm.locals ≤ R.locals) : CallW R s args RL RX2 59 yX2_placed cX2_placed 1 (some .int) (Cond.code yX2_placed cX2_placed 1 (some .int) :: wsL_law) rm rm.cells rm.slots 0 := cwV 0 hts (km_app (km_four km_185 km_186 km_187 km_5) (km_in km_188)) rfl rfl rfl (by decide +kernel) hR
theorem cw_RL_60 {R : Room} {s : State} {args : Array Value} {rm : Room} (hts : ∀ w ∈ wsL_law, w.before args s = true) (hR : rm.frames + 1 ≤ R.frames ∧ 8 + (4 + 11) + rm.locals ≤ R.locals) : CallW R s args RL RX1 60 yX1_arc cX1_arc 4 (some .int) (Cond.code yX1_arc cX1_arc 4 (some .int) :: wsL_law) rm rm.cells rm.slots 3 := cwV 3 hts (km_app (km_four km_189 km_190 km_191 km_2) (km_in km_192)) rfl rfl rfl (by decide +kernel) hR
theorem cw_RL_64 {R : Room} {s : State} {args : Array Value} {rm : Room} (hts : ∀ w ∈ wsL_law, w.before args s = true) (hR : rm.frames + 1 ≤ R.frames ∧ 8 + (4 + 11) + rm.locals ≤ R.locals) : CallW R s args RL RX2 64 yX2_arc cX2_arc 4 (some .int) (Cond.code yX2_arc cX2_arc 4 (some .int) :: wsL_law) rm rm.cells rm.slots 3 := cwV 3 hts (km_app (km_four km_206 km_207 km_208 km_5) (km_in km_209)) rfl rfl rfl (by decide +kernel) hR
theorem cw_RL_65 {R : Room} {s : State} {args : Array Value} {rm : Room} (hts : ∀ w ∈ wsL_law, w.before args s = true) (hR : rm.frames + 1 ≤ R.frames ∧ 8 + (3 + 11) + rm.locals ≤ R.locals) : CallW R s args RL RX1 65 yX1_run cX1_run 3 (some .int) (Cond.code yX1_run cX1_run 3 (some .int) :: wsL_law) rm rm.cells rm.slots 1 := cwV 1 hts (km_app (km_four km_212 km_213 km_214 km_2) (km_in km_215)) rfl rfl rfl (by decide +kernel) hR
theorem cw_RL_68 {R : Room} {s : State} {args : Array Value} {rm : Room} (hts : ∀ w ∈ wsL_law, w.before args s = true) (hR : rm.frames + 1 ≤ R.frames ∧ 8 + (5 + 11) + rm.locals ≤ R.locals) : CallW R s args RL RX2 68 yX2_run cX2_run 5 (some .int) (Cond.code yX2_run cX2_run 5 (some .int) :: wsL_law) rm rm.cells rm.slots 1 := cwV 1 hts (km_app (km_four km_240 km_241 km_242 km_5) (km_in km_243)) rfl rfl rfl (by decide +kernel) hR
theorem cw_RL_69 {R : Room} {s : State} {args : Array Value} {rm : Room} (hts : ∀ w ∈ wsL_law, w.before args s = true) (hR : rm.frames + 1 ≤ R.frames ∧ 8 + (2 + 11) + rm.locals ≤ R.locals) : CallW R s args RL RX1 69 yX1_distance cX1_distance 2 (some .int) (Cond.code yX1_distance cX1_distance 2 (some .int) :: wsL_law) rm rm.cells rm.slots 1 := cwV 1 hts (km_app (km_four km_258 km_259 km_260 km_2) (km_in km_261)) rfl rfl rfl (by decide +kernel) hR
theorem cw_RL_72 {R : Room} {s : State} {args : Array Value} {rm : Room} (hts : ∀ w ∈ wsL_law, w.before args s = true) (hR : rm.frames + 1 ≤ R.frames ∧ 8 + (2 + 11) + rm.locals ≤ R.locals) : CallW R s args RL RX2 72 yX2_distance cX2_distance 2 (some .int) (Cond.code yX2_distance cX2_distance 2 (some .int) :: wsL_law) rm rm.cells rm.slots 1 := cwV 1 hts (km_app (km_four km_262 km_263 km_264 km_5) (km_in km_265)) rfl rfl rfl (by decide +kernel) hR
theorem cw_RL_73 {R : Room} {s : State} {args : Array Value} {rm : Room} (hts : ∀ w ∈ wsL_law, w.before args s = true) (hR : rm.frames + 1 ≤ R.frames ∧ 8 + (2 + 11) + rm.locals ≤ R.locals) : CallW R s args RL RX1 73 yX1_before cX1_before 2 (some .int) (Cond.code yX1_before cX1_before 2 (some .int) :: wsL_law) rm rm.cells rm.slots 1 := cwV 1 hts (km_app (km_four km_266 km_267 km_268 km_2) (km_in km_269)) rfl rfl rfl (by decide +kernel) hR
theorem cw_RL_76 {R : Room} {s : State} {args : Array Value} {rm : Room} (hts : ∀ w ∈ wsL_law, w.before args s = true) (hR : rm.frames + 1 ≤ R.frames ∧ 8 + (2 + 11) + rm.locals ≤ R.locals) : CallW R s args RL RX2 76 yX2_before cX2_before 2 (some .int) (Cond.code yX2_before cX2_before 2 (some .int) :: wsL_law) rm rm.cells rm.slots 1 := cwV 1 hts (km_app (km_four km_270 km_271 km_272 km_5) (km_in km_273)) rfl rfl rfl (by decide +kernel) hR
theorem cw_RL_77 {R : Room} {s : State} {args : Array Value} {rm : Room} (hts : ∀ w ∈ wsL_law, w.before args s = true) (hR : rm.frames + 1 ≤ R.frames ∧ 8 + (2 + 11) + rm.locals ≤ R.locals) : CallW R s args RL RX1 77 yX1_sound cX1_sound 2 (some .boolean) (Cond.code yX1_sound cX1_sound 2 (some .boolean) :: wsL_law) rm rm.cells rm.slots 0 := cwV 0 hts (km_app (km_four km_274 km_275 km_276 km_2) (km_in km_277)) rfl rfl rfl (by decide +kernel) hR
theorem cw_RL_81 {R : Room} {s : State} {args : Array Value} {rm : Room} (hts : ∀ w ∈ wsL_law, w.before args s = true) (hR : rm.frames + 1 ≤ R.frames ∧ 8 + (1 + 11) + rm.locals ≤ R.locals) : CallW R s args RL RX2 81 yX2_sound cX2_sound 1 (some .boolean) (Cond.code yX2_sound cX2_sound 1 (some .boolean) :: wsL_law) rm rm.cells rm.slots 0 := cwV 0 hts (km_app (km_four km_283 km_284 km_285 km_5) (km_in km_286)) rfl rfl rfl (by decide +kernel) hR
theorem cw_RL_82 {R : Room} {s : State} {args : Array Value} {rm : Room} (hts : ∀ w ∈ wsL_law, w.before args s = true) (hR : rm.frames + 1 ≤ R.frames ∧ 8 + (2 + 11) + rm.locals ≤ R.locals) : CallW R s args RL RX1 82 yX1_count cX1_count 2 (some .int) (Cond.code yX1_count cX1_count 2 (some .int) :: wsL_law) rm rm.cells rm.slots 1 := cwV 1 hts (km_app (km_four km_287 km_288 km_289 km_2) (km_in km_290)) rfl rfl rfl (by decide +kernel) hR
theorem cw_RL_85 {R : Room} {s : State} {args : Array Value} {rm : Room} (hts : ∀ w ∈ wsL_law, w.before args s = true) (hR : rm.frames + 1 ≤ R.frames ∧ 8 + (2 + 11) + rm.locals ≤ R.locals) : CallW R s args RL RX2 85 yX2_count cX2_count 2 (some .int) (Cond.code yX2_count cX2_count 2 (some .int) :: wsL_law) rm rm.cells rm.slots 1 := cwV 1 hts (km_app (km_four km_291 km_292 km_293 km_5) (km_in km_294)) rfl rfl rfl (by decide +kernel) hR
theorem cw_RL_15 {R : Room} {s : State} {args : Array Value} {rm : Room} (hts : ∀ w ∈ wsL_law, w.before args s = true) (hR : rm.frames + 1 ≤ R.frames ∧ 8 + (4 + 11) + rm.locals ≤ R.locals) : CallB R s args RL 15 yX1_init cX1_init 4 none (Cond.code yX1_init cX1_init 4 none :: wsL_law) rm rm.cells rm.slots 3 ∧ yX1_init.name = "<init>" ∧ (Cond.instanceMethod yX1_init).before args s = true := cwI 3 hts (km_in km_12) rfl rfl rfl (hts _ km_2) (hts _ km_10) (hts _ km_11) rfl (by decide +kernel) hR
theorem cw_RL_20 {R : Room} {s : State} {args : Array Value} {rm : Room} (hts : ∀ w ∈ wsL_law, w.before args s = true) (hR : rm.frames + 1 ≤ R.frames ∧ 8 + (4 + 11) + rm.locals ≤ R.locals) : CallB R s args RL 20 yX2_init cX2_init 4 none (Cond.code yX2_init cX2_init 4 none :: wsL_law) rm rm.cells rm.slots 3 ∧ yX2_init.name = "<init>" ∧ (Cond.instanceMethod yX2_init).before args s = true := cwI 3 hts (km_in km_40) rfl rfl rfl (hts _ km_5) (hts _ km_38) (hts _ km_39) rfl (by decide +kernel) hR
set_option maxHeartbeats 4000000 in
set_option maxRecDepth 100000 in
theorem law_loop {p : Program} {e : Env} {s : State} {m : MethodId} {below : List Frame} {meth : Method} {c : Code} (l : Launch) {b N : Nat} {xs : Nat → Int32} (hN : N ≤ 2051) (C0 : lw_At p s m meth c b N xs) (dC : Nat → ClassId) (dI : Nat → Nat → Nat) (cI cA cZ : ClassId) (hK : va_K (dC, dI) classes (fq_ty cI cA cZ) s) (hNw : fq_N s) (z y : Nat → Nat) (n ar : Nat) (gl : Int32) (hn : n ≤ 40) (har : ar ≤ 300) : ∀ (d i : Nat) (ac : Nat) (fl pr pg ky : Int32) (K B M Ds Bf : Nat → Int32) (L : Nat → Option Nat) (pool : va_W) (as : Nat → List (Int32 × Int32)) (lo pm ca hw : Int32) (mK F T Ln Wy Fo Tk Ne : Nat → Int32) (H : Heap) (locs : List Loc) (cells slots : Nat) (ls : Array Slot), i ≤ 3000 → N - i < d → lawI n ar gl ac ((fl, pr, pg, ky, K, B, M), Ds, Bf) L pool as (((lo, pm, ca, mK), Wy, Fo, Tk), Ne, hw) F T Ln → cells ≤ 100 + i → slots ≤ 2000 + 3 * i → va_P (dC, dI) classes (wX z cI cA n (nI ar) gl fl pr pg ky (nI ac) K B M Ds Bf L ++ (mC y cI cZ n ar gl lo pm ca ac hw mK F T Ln Wy Fo Tk Ne ++ pool)) H → va_D (fun q : Nat => s.heap.size ≤ q) (wX z cI cA n (nI ar) gl fl pr pg ky (nI ac) K B M Ds Bf L ++ (mC y cI cZ n ar gl lo pm ca ac hw mK F T Ln Wy Fo Tk Ne ++ pool)) → va_S (fun q : Nat => s.heap.size ≤ q) s.heap H locs → lv_has ls 4 [(0, .ref b), (1, .ref (z 0)), (2, .ref (y 0)), (3, .int (nI i))] → W p l e room_1 s m #[Value.ref b] below meth c H locs cells slots (lw_Z below #[Value.ref b] s) (F0 m 48 ls []) := by
  obtain ⟨hx, hb, hr, hml, hown, hts0, hX, hbl, hlocks, hgv⟩ := id C0
  have hts := fun w (h : w ∈ wsL_law) => hts0 w (wsL_law_in w h)
  have hF : CallFix p m c code 4 s #[Value.ref b] wsL_law RL := ⟨hx, hb, hml, hown, hts⟩
  obtain ⟨A, hAe⟩ : ∃ A : Nat → Prop, A = (fun q : Nat => s.heap.size ≤ q) := ⟨_, rfl⟩
  have hA : ∀ q : Nat, s.heap.size ≤ q → A q := fun q h => by rw [hAe]; exact h
  have hbA : ¬ A b := by rw [hAe]; exact Nat.not_le.mpr hbl
  have hAs : ∀ q, A q → s.heap.size ≤ q := fun q h => by rw [hAe] at h; exact h
  rw [← hAe]
  have hN31 : N < 2 ^ 31 := by omega
  have hn31 : n < 2 ^ 31 := by omega
  intro d
  induction d with
  | zero => intro i ac fl pr pg ky K B M Ds Bf L pool as lo pm ca hw mK F T Ln Wy Fo Tk Ne H locs cells slots ls _ h9; omega
  | succ d ih =>
    intro i ac fl pr pg ky K B M Ds Bf L pool as lo pm ca hw mK F T Ln Wy Fo Tk Ne H locs cells slots ls hi3 hd hI hcl hsl hP hD hS hl
    have hch := li_ch hI
    have hs := li_s hI
    have hms := li_ms hI
    have hnet := li_net hI
    have hac := li_ac hI
    refine lv_iload_n hx hb dL_law_48 rfl (lv_at hl 3 rfl) ?_
    refine lv_aload_n hx hb dL_law_49 rfl (lv_at hl 0 rfl) ?_
    refine va_slen hx hb hX hbl hbA hS dL_law_50 ?_
    refine lv_iconst (v := 4) hx hb dL_law_51 (by decide) ?_
    refine lv_isub hx hb dL_law_52 ?_
    refine lv_icmp_gt (tgt := 477) hx hb dL_law_53 (by decide) (fun c_53 => ?_) (fun c_53 => ?_)
    · refine lv_iconst (v := 1) hx hb dL_law_477 (by decide) ?_
      refine va_forget (fun q hq => hAs _ (hS.2.2 q hq)) ?_
      refine W.widen (k := 600000) (n := 7302249) (by omega) (by omega) ?_
      exact lw_ret hx hb hr hlocks dL_law_478
    · have hlt : i + 4 ≤ N := Classical.not_not.mp fun h9 => c_53 ((fq_head (by omega) hN).mpr h9)
      refine lv_aload_n hx hb dL_law_56 rfl (lv_at hl 0 rfl) ?_
      refine lv_iload_n hx hb dL_law_57 rfl (lv_at hl 3 rfl) ?_
      refine fx_sld hx hb hX hbl hbA hS i rfl (by omega) hN31 dL_law_58 ?_
      refine lv_bipush (v := 15) hx hb dL_law_59 (by decide) ?_
      refine lv_iand hx hb dL_law_61 ?_
      obtain ⟨sw, hsw, esw⟩ := pk_andE (xs i) (m := 15) 4 (by decide)
      refine fx_is esw ?_
      have hsw : sw < 16 := hsw
      have KT : ∀ (ac : Nat) (fl pr pg ky : Int32) (K B M Ds Bf : Nat → Int32) (L : Nat → Option Nat) (pool : va_W) (as : Nat → List (Int32 × Int32)) (lo pm ca hw : Int32) (mK F T Ln Wy Fo Tk Ne : Nat → Int32) (H : Heap) (locs : List Loc) (cells2 slots2 : Nat) (ls : Array Slot), lawI n ar gl ac ((fl, pr, pg, ky, K, B, M), Ds, Bf) L pool as (((lo, pm, ca, mK), Wy, Fo, Tk), Ne, hw) F T Ln → cells2 ≤ cells + 1 → slots2 ≤ slots + 3 → va_P (dC, dI) classes (wX z cI cA n (nI ar) gl fl pr pg ky (nI ac) K B M Ds Bf L ++ (mC y cI cZ n ar gl lo pm ca ac hw mK F T Ln Wy Fo Tk Ne ++ pool)) H → va_D A (wX z cI cA n (nI ar) gl fl pr pg ky (nI ac) K B M Ds Bf L ++ (mC y cI cZ n ar gl lo pm ca ac hw mK F T Ln Wy Fo Tk Ne ++ pool)) → va_S A s.heap H locs → lv_has ls 4 [(0, .ref b), (1, .ref (z 0)), (2, .ref (y 0)), (3, .int (nI i))] → W p l e room_1 s m #[Value.ref b] below meth c H locs cells2 slots2 (lw_Z below #[Value.ref b] s) (F0 m 471 ls []) := by
        intro ac fl pr pg ky K B M Ds Bf L pool as lo pm ca hw mK F T Ln Wy Fo Tk Ne H locs cells2 slots2 ls hI h1 h2 hP hD hS hl
        refine lv_iinc (v := nI (i + 4)) (lv' := [(3, .int (nI (i + 4))), (0, .ref b), (1, .ref (z 0)), (2, .ref (y 0))]) hx hb dL_law_471 hl (k := 3) rfl (nI_add i 4) (by decide) rfl (fun ls hl => ?_)
        refine lv_goto (tgt := 48) hx hb dL_law_474 (by decide) ?_
        exact ih (i + 4) ac fl pr pg ky K B M Ds Bf L pool as lo pm ca hw mK F T Ln Wy Fo Tk Ne H locs cells2 slots2 ls (by omega) (by omega) hI (by omega) (by omega) hP hD hS (lv_sub hl [1, 2, 3, 0] rfl)
      rcases (show sw = 0 ∨ sw = 1 ∨ sw = 2 ∨ sw = 3 ∨ sw = 4 ∨ sw = 5 ∨ sw = 6 ∨ sw = 7 ∨ sw = 8 ∨ sw = 9 ∨ sw = 10 ∨ sw = 11 ∨ sw = 12 ∨ sw = 13 ∨ sw = 14 ∨ sw = 15 by omega) with rfl | rfl | rfl | rfl | rfl | rfl | rfl | rfl | rfl | rfl | rfl | rfl | rfl | rfl | rfl | rfl
      · -- 0
        refine lv_tableIn (tgt := 136) (off := 74) hx hb dL_law_62 (by decide) (by decide) (by decide) (by decide) ?_
        refine lv_aload_n hx hb dL_law_136 rfl (lv_at hl 1 rfl) ?_
        refine lv_aload_n hx hb dL_law_137 rfl (lv_at hl 0 rfl) ?_
        refine lv_iload_n hx hb dL_law_138 rfl (lv_at hl 3 rfl) ?_
        refine lv_iconst (v := 1) hx hb dL_law_139 (by decide) ?_
        refine lv_iadd hx hb dL_law_140 ?_
        refine fx_sld hx hb hX hbl hbA hS (i + 1) (nI_add i 1) (by omega) hN31 dL_law_141 ?_
        refine lv_aload_n hx hb dL_law_142 rfl (lv_at hl 0 rfl) ?_
        refine lv_iload_n hx hb dL_law_143 rfl (lv_at hl 3 rfl) ?_
        refine lv_iconst (v := 2) hx hb dL_law_144 (by decide) ?_
        refine lv_iadd hx hb dL_law_145 ?_
        refine fx_sld hx hb hX hbl hbA hS (i + 2) (nI_add i 2) (by omega) hN31 dL_law_146 ?_
        refine fx_Vi (rest := []) (sp_push l dC dI A cI cA cZ (mC y cI cZ n ar gl lo pm ca ac hw mK F T Ln Wy Fo Tk Ne ++ pool) z n hn (nI ar) gl fl pr pg ky (nI ac) K B M Ds Bf L (xs (i + 1)) (xs (i + 2)) hs) hF (cw_RL_21 hts ⟨Nat.le_of_ble_eq_true rfl, Nat.le_of_ble_eq_true rfl⟩) hA hS hP hK hD hNw 0 0 rfl rfl rfl hl.1 rfl (Nat.le_of_ble_eq_true rfl) dL_law_147 ⟨by show cells + 0 ≤ 600000; omega, by show slots + 0 ≤ 7302249; omega⟩ (fun r1 u1 H locs h1 hP hD hS => ?_)
        obtain ⟨fl2, pr2, pg2, ky2, K2, B2, M2⟩ := u1
        have hP : va_P (dC, dI) classes (wX z cI cA n (nI ar) gl fl2 pr2 pg2 ky2 (nI ac) K2 B2 M2 Ds Bf L ++ (mC y cI cZ n ar gl lo pm ca ac hw mK F T Ln Wy Fo Tk Ne ++ pool)) H := hP
        have hD : va_D A (wX z cI cA n (nI ar) gl fl2 pr2 pg2 ky2 (nI ac) K2 B2 M2 Ds Bf L ++ (mC y cI cZ n ar gl lo pm ca ac hw mK F T Ln Wy Fo Tk Ne ++ pool)) := hD
        refine lv_pop hx hb dL_law_150 rfl ?_
        refine lv_aload_n hx hb dL_law_151 rfl (lv_at hl 2 rfl) ?_
        refine lv_aload_n hx hb dL_law_152 rfl (lv_at hl 0 rfl) ?_
        refine lv_iload_n hx hb dL_law_153 rfl (lv_at hl 3 rfl) ?_
        refine lv_iconst (v := 1) hx hb dL_law_154 (by decide) ?_
        refine lv_iadd hx hb dL_law_155 ?_
        refine fx_sld hx hb hX hbl hbA hS (i + 1) (nI_add i 1) (by omega) hN31 dL_law_156 ?_
        refine lv_aload_n hx hb dL_law_157 rfl (lv_at hl 0 rfl) ?_
        refine lv_iload_n hx hb dL_law_158 rfl (lv_at hl 3 rfl) ?_
        refine lv_iconst (v := 2) hx hb dL_law_159 (by decide) ?_
        refine lv_iadd hx hb dL_law_160 ?_
        refine fx_sld hx hb hX hbl hbA hS (i + 2) (nI_add i 2) (by omega) hN31 dL_law_161 ?_
        refine fx_Vi (rest := []) (sq_push l dC dI A cI cA cZ pool (xc0 z n (nI ar) gl fl2 pr2 pg2 ky2 (nI ac)) (xcI z 1 cI n K2) (xcI z 2 cI n B2) (xcI z 3 cI 32 M2) (xcQ z 4 cA n L) (xcI z 5 cI n Ds) (xcI z 6 cI n Bf) y n hn ar gl lo pm ca ac hw mK F T Ln Wy Fo Tk Ne (xs (i + 1)) (xs (i + 2))) hF (cw_RL_25 hts ⟨Nat.le_of_ble_eq_true rfl, Nat.le_of_ble_eq_true rfl⟩) hA hS hP hK hD hNw 7 2 rfl rfl rfl hl.1 rfl (Nat.le_of_ble_eq_true rfl) dL_law_162 ⟨by show cells + 0 ≤ 600000; omega, by show slots + 0 ≤ 7302249; omega⟩ (fun r2 u2 H locs h2 hP hD hS => ?_)
        obtain ⟨lo2, pm2, ca2, mK2⟩ := u2
        have hP : va_P (dC, dI) classes (wX z cI cA n (nI ar) gl fl2 pr2 pg2 ky2 (nI ac) K2 B2 M2 Ds Bf L ++ (mC y cI cZ n ar gl lo2 pm2 ca2 ac hw mK2 F T Ln Wy Fo Tk Ne ++ pool)) H := hP
        have hD : va_D A (wX z cI cA n (nI ar) gl fl2 pr2 pg2 ky2 (nI ac) K2 B2 M2 Ds Bf L ++ (mC y cI cZ n ar gl lo2 pm2 ca2 ac hw mK2 F T Ln Wy Fo Tk Ne ++ pool)) := hD
        refine lv_pop hx hb dL_law_165 rfl ?_
        refine lv_goto (tgt := 471) hx hb dL_law_166 (by decide) ?_
        exact KT ac fl2 pr2 pg2 ky2 K2 B2 M2 Ds Bf L pool as lo2 pm2 ca2 hw mK2 F T Ln Wy Fo Tk Ne H locs cells slots ls (li_push hn hI h1 h2) (by omega) (by omega) hP hD hS hl
      · -- 1
        refine lv_tableIn (tgt := 169) (off := 107) hx hb dL_law_62 (by decide) (by decide) (by decide) (by decide) ?_
        refine lv_aload_n hx hb dL_law_169 rfl (lv_at hl 1 rfl) ?_
        refine lv_aload_n hx hb dL_law_170 rfl (lv_at hl 0 rfl) ?_
        refine lv_iload_n hx hb dL_law_171 rfl (lv_at hl 3 rfl) ?_
        refine lv_iconst (v := 1) hx hb dL_law_172 (by decide) ?_
        refine lv_iadd hx hb dL_law_173 ?_
        refine fx_sld hx hb hX hbl hbA hS (i + 1) (nI_add i 1) (by omega) hN31 dL_law_174 ?_
        refine lv_aload_n hx hb dL_law_175 rfl (lv_at hl 0 rfl) ?_
        refine lv_iload_n hx hb dL_law_176 rfl (lv_at hl 3 rfl) ?_
        refine lv_iconst (v := 2) hx hb dL_law_177 (by decide) ?_
        refine lv_iadd hx hb dL_law_178 ?_
        refine fx_sld hx hb hX hbl hbA hS (i + 2) (nI_add i 2) (by omega) hN31 dL_law_179 ?_
        refine fx_Vi (rest := []) (sp_lower l dC dI A cI cA cZ (mC y cI cZ n ar gl lo pm ca ac hw mK F T Ln Wy Fo Tk Ne ++ pool) z n hn (nI ar) gl fl pr pg ky (nI ac) K B M Ds Bf L (xs (i + 1)) (xs (i + 2)) hs) hF (cw_RL_26 hts ⟨Nat.le_of_ble_eq_true rfl, Nat.le_of_ble_eq_true rfl⟩) hA hS hP hK hD hNw 0 0 rfl rfl rfl hl.1 rfl (Nat.le_of_ble_eq_true rfl) dL_law_180 ⟨by show cells + 0 ≤ 600000; omega, by show slots + 0 ≤ 7302249; omega⟩ (fun r1 u1 H locs h1 hP hD hS => ?_)
        obtain ⟨fl2, pr2, pg2, ky2, K2, B2, M2⟩ := u1
        have hP : va_P (dC, dI) classes (wX z cI cA n (nI ar) gl fl2 pr2 pg2 ky2 (nI ac) K2 B2 M2 Ds Bf L ++ (mC y cI cZ n ar gl lo pm ca ac hw mK F T Ln Wy Fo Tk Ne ++ pool)) H := hP
        have hD : va_D A (wX z cI cA n (nI ar) gl fl2 pr2 pg2 ky2 (nI ac) K2 B2 M2 Ds Bf L ++ (mC y cI cZ n ar gl lo pm ca ac hw mK F T Ln Wy Fo Tk Ne ++ pool)) := hD
        refine lv_pop hx hb dL_law_183 rfl ?_
        refine lv_aload_n hx hb dL_law_184 rfl (lv_at hl 2 rfl) ?_
        refine lv_aload_n hx hb dL_law_185 rfl (lv_at hl 0 rfl) ?_
        refine lv_iload_n hx hb dL_law_186 rfl (lv_at hl 3 rfl) ?_
        refine lv_iconst (v := 1) hx hb dL_law_187 (by decide) ?_
        refine lv_iadd hx hb dL_law_188 ?_
        refine fx_sld hx hb hX hbl hbA hS (i + 1) (nI_add i 1) (by omega) hN31 dL_law_189 ?_
        refine lv_aload_n hx hb dL_law_190 rfl (lv_at hl 0 rfl) ?_
        refine lv_iload_n hx hb dL_law_191 rfl (lv_at hl 3 rfl) ?_
        refine lv_iconst (v := 2) hx hb dL_law_192 (by decide) ?_
        refine lv_iadd hx hb dL_law_193 ?_
        refine fx_sld hx hb hX hbl hbA hS (i + 2) (nI_add i 2) (by omega) hN31 dL_law_194 ?_
        refine fx_Vi (rest := []) (sq_lower l dC dI A cI cA cZ pool (xc0 z n (nI ar) gl fl2 pr2 pg2 ky2 (nI ac)) (xcI z 1 cI n K2) (xcI z 2 cI n B2) (xcI z 3 cI 32 M2) (xcQ z 4 cA n L) (xcI z 5 cI n Ds) (xcI z 6 cI n Bf) y n hn ar gl lo pm ca ac hw mK F T Ln Wy Fo Tk Ne (xs (i + 1)) (xs (i + 2)) hms) hF (cw_RL_29 hts ⟨Nat.le_of_ble_eq_true rfl, Nat.le_of_ble_eq_true rfl⟩) hA hS hP hK hD hNw 7 2 rfl rfl rfl hl.1 rfl (Nat.le_of_ble_eq_true rfl) dL_law_195 ⟨by show cells + 0 ≤ 600000; omega, by show slots + 0 ≤ 7302249; omega⟩ (fun r2 u2 H locs h2 hP hD hS => ?_)
        obtain ⟨lo2, pm2, ca2, mK2⟩ := u2
        have hP : va_P (dC, dI) classes (wX z cI cA n (nI ar) gl fl2 pr2 pg2 ky2 (nI ac) K2 B2 M2 Ds Bf L ++ (mC y cI cZ n ar gl lo2 pm2 ca2 ac hw mK2 F T Ln Wy Fo Tk Ne ++ pool)) H := hP
        have hD : va_D A (wX z cI cA n (nI ar) gl fl2 pr2 pg2 ky2 (nI ac) K2 B2 M2 Ds Bf L ++ (mC y cI cZ n ar gl lo2 pm2 ca2 ac hw mK2 F T Ln Wy Fo Tk Ne ++ pool)) := hD
        refine lv_pop hx hb dL_law_198 rfl ?_
        refine lv_goto (tgt := 471) hx hb dL_law_199 (by decide) ?_
        exact KT ac fl2 pr2 pg2 ky2 K2 B2 M2 Ds Bf L pool as lo2 pm2 ca2 hw mK2 F T Ln Wy Fo Tk Ne H locs cells slots ls (li_lower hn hI h1 h2) (by omega) (by omega) hP hD hS hl
      · -- 2
        refine lv_tableIn (tgt := 202) (off := 140) hx hb dL_law_62 (by decide) (by decide) (by decide) (by decide) ?_
        refine lv_aload_n hx hb dL_law_202 rfl (lv_at hl 1 rfl) ?_
        refine fx_Vi (rest := []) (sp_pop l dC dI A cI cA cZ (mC y cI cZ n ar gl lo pm ca ac hw mK F T Ln Wy Fo Tk Ne ++ pool) z n hn (nI ar) gl fl pr pg ky (nI ac) K B M Ds Bf L hs) hF (cw_RL_30 hts ⟨Nat.le_of_ble_eq_true rfl, Nat.le_of_ble_eq_true rfl⟩) hA hS hP hK hD hNw 0 0 rfl rfl rfl hl.1 rfl (Nat.le_of_ble_eq_true rfl) dL_law_203 ⟨by show cells + 0 ≤ 600000; omega, by show slots + 0 ≤ 7302249; omega⟩ (fun r1 u1 H locs h1 hP hD hS => ?_)
        obtain ⟨fl2, pr2, pg2, ky2, K2, B2, M2⟩ := u1
        have hP : va_P (dC, dI) classes (wX z cI cA n (nI ar) gl fl2 pr2 pg2 ky2 (nI ac) K2 B2 M2 Ds Bf L ++ (mC y cI cZ n ar gl lo pm ca ac hw mK F T Ln Wy Fo Tk Ne ++ pool)) H := hP
        have hD : va_D A (wX z cI cA n (nI ar) gl fl2 pr2 pg2 ky2 (nI ac) K2 B2 M2 Ds Bf L ++ (mC y cI cZ n ar gl lo pm ca ac hw mK F T Ln Wy Fo Tk Ne ++ pool)) := hD
        refine lv_pop hx hb dL_law_206 rfl ?_
        refine lv_aload_n hx hb dL_law_207 rfl (lv_at hl 2 rfl) ?_
        refine fx_Vi (rest := []) (sq_pop l dC dI A cI cA cZ pool (xc0 z n (nI ar) gl fl2 pr2 pg2 ky2 (nI ac)) (xcI z 1 cI n K2) (xcI z 2 cI n B2) (xcI z 3 cI 32 M2) (xcQ z 4 cA n L) (xcI z 5 cI n Ds) (xcI z 6 cI n Bf) y n hn ar gl lo pm ca ac hw mK F T Ln Wy Fo Tk Ne hms) hF (cw_RL_34 hts ⟨Nat.le_of_ble_eq_true rfl, Nat.le_of_ble_eq_true rfl⟩) hA hS hP hK hD hNw 7 2 rfl rfl rfl hl.1 rfl (Nat.le_of_ble_eq_true rfl) dL_law_208 ⟨by show cells + 0 ≤ 600000; omega, by show slots + 0 ≤ 7302249; omega⟩ (fun r2 u2 H locs h2 hP hD hS => ?_)
        obtain ⟨lo2, pm2, ca2, mK2⟩ := u2
        have hP : va_P (dC, dI) classes (wX z cI cA n (nI ar) gl fl2 pr2 pg2 ky2 (nI ac) K2 B2 M2 Ds Bf L ++ (mC y cI cZ n ar gl lo2 pm2 ca2 ac hw mK2 F T Ln Wy Fo Tk Ne ++ pool)) H := hP
        have hD : va_D A (wX z cI cA n (nI ar) gl fl2 pr2 pg2 ky2 (nI ac) K2 B2 M2 Ds Bf L ++ (mC y cI cZ n ar gl lo2 pm2 ca2 ac hw mK2 F T Ln Wy Fo Tk Ne ++ pool)) := hD
        refine lv_pop hx hb dL_law_211 rfl ?_
        refine lv_goto (tgt := 471) hx hb dL_law_212 (by decide) ?_
        exact KT ac fl2 pr2 pg2 ky2 K2 B2 M2 Ds Bf L pool as lo2 pm2 ca2 hw mK2 F T Ln Wy Fo Tk Ne H locs cells slots ls (li_pop hn hI h1 h2) (by omega) (by omega) hP hD hS hl
      · -- 3
        refine lv_tableIn (tgt := 215) (off := 153) hx hb dL_law_62 (by decide) (by decide) (by decide) (by decide) ?_
        refine lv_aload_n hx hb dL_law_215 rfl (lv_at hl 1 rfl) ?_
        refine fx_Vs (rest := []) (sp_floor l dC dI A cI cA cZ (mC y cI cZ n ar gl lo pm ca ac hw mK F T Ln Wy Fo Tk Ne ++ pool) z n hn (nI ar) gl fl pr pg ky (nI ac) K B M Ds Bf L) hF (cw_RL_35 hts ⟨Nat.le_of_ble_eq_true rfl, Nat.le_of_ble_eq_true rfl⟩) hA hS hP hK hD hNw 0 0 rfl rfl rfl hl.1 rfl (Nat.le_of_ble_eq_true rfl) dL_law_216 ⟨by show cells ≤ 600000; omega, by show slots ≤ 7302249; omega⟩ (fun r1 h1 => ?_)
        refine lv_pop hx hb dL_law_219 rfl ?_
        refine lv_aload_n hx hb dL_law_220 rfl (lv_at hl 2 rfl) ?_
        refine fx_Vs (rest := []) (sq_floor l dC dI A cI cA cZ pool (xc0 z n (nI ar) gl fl pr pg ky (nI ac)) (xcI z 1 cI n K) (xcI z 2 cI n B) (xcI z 3 cI 32 M) (xcQ z 4 cA n L) (xcI z 5 cI n Ds) (xcI z 6 cI n Bf) y n hn ar gl lo pm ca ac hw mK F T Ln Wy Fo Tk Ne) hF (cw_RL_38 hts ⟨Nat.le_of_ble_eq_true rfl, Nat.le_of_ble_eq_true rfl⟩) hA hS hP hK hD hNw 7 2 rfl rfl rfl hl.1 rfl (Nat.le_of_ble_eq_true rfl) dL_law_221 ⟨by show cells ≤ 600000; omega, by show slots ≤ 7302249; omega⟩ (fun r2 h2 => ?_)
        refine lv_pop hx hb dL_law_224 rfl ?_
        refine lv_goto (tgt := 471) hx hb dL_law_225 (by decide) ?_
        exact KT ac fl pr pg ky K B M Ds Bf L pool as lo pm ca hw mK F T Ln Wy Fo Tk Ne H locs cells slots ls (hI) (by omega) (by omega) hP hD hS hl
      · -- 4
        refine lv_tableIn (tgt := 228) (off := 166) hx hb dL_law_62 (by decide) (by decide) (by decide) (by decide) ?_
        refine lv_aload_n hx hb dL_law_228 rfl (lv_at hl 1 rfl) ?_
        refine fx_Vs (rest := []) (sp_size l dC dI A cI cA cZ (mC y cI cZ n ar gl lo pm ca ac hw mK F T Ln Wy Fo Tk Ne ++ pool) z n hn (nI ar) gl fl pr pg ky (nI ac) K B M Ds Bf L) hF (cw_RL_39 hts ⟨Nat.le_of_ble_eq_true rfl, Nat.le_of_ble_eq_true rfl⟩) hA hS hP hK hD hNw 0 0 rfl rfl rfl hl.1 rfl (Nat.le_of_ble_eq_true rfl) dL_law_229 ⟨by show cells ≤ 600000; omega, by show slots ≤ 7302249; omega⟩ (fun r1 h1 => ?_)
        refine lv_pop hx hb dL_law_232 rfl ?_
        refine lv_aload_n hx hb dL_law_233 rfl (lv_at hl 2 rfl) ?_
        refine fx_Vs (rest := []) (sq_size l dC dI A cI cA cZ pool (xc0 z n (nI ar) gl fl pr pg ky (nI ac)) (xcI z 1 cI n K) (xcI z 2 cI n B) (xcI z 3 cI 32 M) (xcQ z 4 cA n L) (xcI z 5 cI n Ds) (xcI z 6 cI n Bf) y n hn ar gl lo pm ca ac hw mK F T Ln Wy Fo Tk Ne) hF (cw_RL_42 hts ⟨Nat.le_of_ble_eq_true rfl, Nat.le_of_ble_eq_true rfl⟩) hA hS hP hK hD hNw 7 2 rfl rfl rfl hl.1 rfl (Nat.le_of_ble_eq_true rfl) dL_law_234 ⟨by show cells ≤ 600000; omega, by show slots ≤ 7302249; omega⟩ (fun r2 h2 => ?_)
        refine lv_pop hx hb dL_law_237 rfl ?_
        refine lv_goto (tgt := 471) hx hb dL_law_238 (by decide) ?_
        exact KT ac fl pr pg ky K B M Ds Bf L pool as lo pm ca hw mK F T Ln Wy Fo Tk Ne H locs cells slots ls (hI) (by omega) (by omega) hP hD hS hl
      · -- 5
        refine lv_tableIn (tgt := 241) (off := 179) hx hb dL_law_62 (by decide) (by decide) (by decide) (by decide) ?_
        refine lv_aload_n hx hb dL_law_241 rfl (lv_at hl 1 rfl) ?_
        refine lv_aload_n hx hb dL_law_242 rfl (lv_at hl 0 rfl) ?_
        refine lv_iload_n hx hb dL_law_243 rfl (lv_at hl 3 rfl) ?_
        refine lv_iconst (v := 1) hx hb dL_law_244 (by decide) ?_
        refine lv_iadd hx hb dL_law_245 ?_
        refine fx_sld hx hb hX hbl hbA hS (i + 1) (nI_add i 1) (by omega) hN31 dL_law_246 ?_
        refine fx_Vs (rest := []) (sp_key l dC dI A cI cA cZ (mC y cI cZ n ar gl lo pm ca ac hw mK F T Ln Wy Fo Tk Ne ++ pool) z n hn (nI ar) gl fl pr pg ky (nI ac) K B M Ds Bf L (xs (i + 1))) hF (cw_RL_43 hts ⟨Nat.le_of_ble_eq_true rfl, Nat.le_of_ble_eq_true rfl⟩) hA hS hP hK hD hNw 0 0 rfl rfl rfl hl.1 rfl (Nat.le_of_ble_eq_true rfl) dL_law_247 ⟨by show cells ≤ 600000; omega, by show slots ≤ 7302249; omega⟩ (fun r1 h1 => ?_)
        refine lv_pop hx hb dL_law_250 rfl ?_
        refine lv_aload_n hx hb dL_law_251 rfl (lv_at hl 2 rfl) ?_
        refine lv_aload_n hx hb dL_law_252 rfl (lv_at hl 0 rfl) ?_
        refine lv_iload_n hx hb dL_law_253 rfl (lv_at hl 3 rfl) ?_
        refine lv_iconst (v := 1) hx hb dL_law_254 (by decide) ?_
        refine lv_iadd hx hb dL_law_255 ?_
        refine fx_sld hx hb hX hbl hbA hS (i + 1) (nI_add i 1) (by omega) hN31 dL_law_256 ?_
        refine fx_Vs (rest := []) (sq_key l dC dI A cI cA cZ pool (xc0 z n (nI ar) gl fl pr pg ky (nI ac)) (xcI z 1 cI n K) (xcI z 2 cI n B) (xcI z 3 cI 32 M) (xcQ z 4 cA n L) (xcI z 5 cI n Ds) (xcI z 6 cI n Bf) y n hn ar gl lo pm ca ac hw mK F T Ln Wy Fo Tk Ne (xs (i + 1)) hms) hF (cw_RL_47 hts ⟨Nat.le_of_ble_eq_true rfl, Nat.le_of_ble_eq_true rfl⟩) hA hS hP hK hD hNw 7 2 rfl rfl rfl hl.1 rfl (Nat.le_of_ble_eq_true rfl) dL_law_257 ⟨by show cells ≤ 600000; omega, by show slots ≤ 7302249; omega⟩ (fun r2 h2 => ?_)
        refine lv_pop hx hb dL_law_260 rfl ?_
        refine lv_goto (tgt := 471) hx hb dL_law_261 (by decide) ?_
        exact KT ac fl pr pg ky K B M Ds Bf L pool as lo pm ca hw mK F T Ln Wy Fo Tk Ne H locs cells slots ls (hI) (by omega) (by omega) hP hD hS hl
      · -- 6
        refine lv_tableIn (tgt := 264) (off := 202) hx hb dL_law_62 (by decide) (by decide) (by decide) (by decide) ?_
        refine lv_aload_n hx hb dL_law_264 rfl (lv_at hl 1 rfl) ?_
        refine lv_aload_n hx hb dL_law_265 rfl (lv_at hl 0 rfl) ?_
        refine lv_iload_n hx hb dL_law_266 rfl (lv_at hl 3 rfl) ?_
        refine lv_iconst (v := 1) hx hb dL_law_267 (by decide) ?_
        refine lv_iadd hx hb dL_law_268 ?_
        refine fx_sld hx hb hX hbl hbA hS (i + 1) (nI_add i 1) (by omega) hN31 dL_law_269 ?_
        refine fx_Vs (rest := []) (sp_bucket l dC dI A cI cA cZ (mC y cI cZ n ar gl lo pm ca ac hw mK F T Ln Wy Fo Tk Ne ++ pool) z n hn (nI ar) gl fl pr pg ky (nI ac) K B M Ds Bf L (xs (i + 1))) hF (cw_RL_48 hts ⟨Nat.le_of_ble_eq_true rfl, Nat.le_of_ble_eq_true rfl⟩) hA hS hP hK hD hNw 0 0 rfl rfl rfl hl.1 rfl (Nat.le_of_ble_eq_true rfl) dL_law_270 ⟨by show cells ≤ 600000; omega, by show slots ≤ 7302249; omega⟩ (fun r1 h1 => ?_)
        refine lv_pop hx hb dL_law_273 rfl ?_
        refine lv_aload_n hx hb dL_law_274 rfl (lv_at hl 2 rfl) ?_
        refine lv_aload_n hx hb dL_law_275 rfl (lv_at hl 0 rfl) ?_
        refine lv_iload_n hx hb dL_law_276 rfl (lv_at hl 3 rfl) ?_
        refine lv_iconst (v := 1) hx hb dL_law_277 (by decide) ?_
        refine lv_iadd hx hb dL_law_278 ?_
        refine fx_sld hx hb hX hbl hbA hS (i + 1) (nI_add i 1) (by omega) hN31 dL_law_279 ?_
        refine fx_Vs (rest := []) (sq_bucket l dC dI A cI cA cZ pool (xc0 z n (nI ar) gl fl pr pg ky (nI ac)) (xcI z 1 cI n K) (xcI z 2 cI n B) (xcI z 3 cI 32 M) (xcQ z 4 cA n L) (xcI z 5 cI n Ds) (xcI z 6 cI n Bf) y n hn ar gl lo pm ca ac hw mK F T Ln Wy Fo Tk Ne (xs (i + 1)) hms) hF (cw_RL_51 hts ⟨Nat.le_of_ble_eq_true rfl, Nat.le_of_ble_eq_true rfl⟩) hA hS hP hK hD hNw 7 2 rfl rfl rfl hl.1 rfl (Nat.le_of_ble_eq_true rfl) dL_law_280 ⟨by show cells ≤ 600000; omega, by show slots ≤ 7302249; omega⟩ (fun r2 h2 => ?_)
        refine lv_pop hx hb dL_law_283 rfl ?_
        refine lv_goto (tgt := 471) hx hb dL_law_284 (by decide) ?_
        exact KT ac fl pr pg ky K B M Ds Bf L pool as lo pm ca hw mK F T Ln Wy Fo Tk Ne H locs cells slots ls (hI) (by omega) (by omega) hP hD hS hl
      · -- 7
        refine lv_tableIn (tgt := 287) (off := 225) hx hb dL_law_62 (by decide) (by decide) (by decide) (by decide) ?_
        refine lv_aload_n hx hb dL_law_287 rfl (lv_at hl 1 rfl) ?_
        refine lv_aload_n hx hb dL_law_288 rfl (lv_at hl 0 rfl) ?_
        refine lv_iload_n hx hb dL_law_289 rfl (lv_at hl 3 rfl) ?_
        refine lv_iconst (v := 1) hx hb dL_law_290 (by decide) ?_
        refine lv_iadd hx hb dL_law_291 ?_
        refine fx_sld hx hb hX hbl hbA hS (i + 1) (nI_add i 1) (by omega) hN31 dL_law_292 ?_
        refine fx_Vs (rest := []) (sp_many l dC dI A cI cA cZ (mC y cI cZ n ar gl lo pm ca ac hw mK F T Ln Wy Fo Tk Ne ++ pool) z n hn (nI ar) gl fl pr pg ky (nI ac) K B M Ds Bf L (xs (i + 1))) hF (cw_RL_52 hts ⟨Nat.le_of_ble_eq_true rfl, Nat.le_of_ble_eq_true rfl⟩) hA hS hP hK hD hNw 0 0 rfl rfl rfl hl.1 rfl (Nat.le_of_ble_eq_true rfl) dL_law_293 ⟨by show cells ≤ 600000; omega, by show slots ≤ 7302249; omega⟩ (fun r1 h1 => ?_)
        refine lv_aload_n hx hb dL_law_296 rfl (lv_at hl 2 rfl) ?_
        refine lv_aload_n hx hb dL_law_297 rfl (lv_at hl 0 rfl) ?_
        refine lv_iload_n hx hb dL_law_298 rfl (lv_at hl 3 rfl) ?_
        refine lv_iconst (v := 1) hx hb dL_law_299 (by decide) ?_
        refine lv_iadd hx hb dL_law_300 ?_
        refine fx_sld hx hb hX hbl hbA hS (i + 1) (nI_add i 1) (by omega) hN31 dL_law_301 ?_
        refine fx_Vs (rest := [.int r1]) (sq_many l dC dI A cI cA cZ pool (xc0 z n (nI ar) gl fl pr pg ky (nI ac)) (xcI z 1 cI n K) (xcI z 2 cI n B) (xcI z 3 cI 32 M) (xcQ z 4 cA n L) (xcI z 5 cI n Ds) (xcI z 6 cI n Bf) y n hn ar gl lo pm ca ac hw mK F T Ln Wy Fo Tk Ne (xs (i + 1)) hms) hF (cw_RL_55 hts ⟨Nat.le_of_ble_eq_true rfl, Nat.le_of_ble_eq_true rfl⟩) hA hS hP hK hD hNw 7 2 rfl rfl rfl hl.1 rfl (Nat.le_of_ble_eq_true rfl) dL_law_302 ⟨by show cells ≤ 600000; omega, by show slots ≤ 7302249; omega⟩ (fun r2 h2 => ?_)
        refine lv_icmp_eq (tgt := 471) hx hb dL_law_305 (by decide) (fun _ => ?_) (fun h9 => absurd (li_eq_many hn hI h1 h2) h9)
        exact KT ac fl pr pg ky K B M Ds Bf L pool as lo pm ca hw mK F T Ln Wy Fo Tk Ne H locs cells slots ls (hI) (by omega) (by omega) hP hD hS hl
      · -- 8
        refine lv_tableIn (tgt := 310) (off := 248) hx hb dL_law_62 (by decide) (by decide) (by decide) (by decide) ?_
        refine lv_aload_n hx hb dL_law_310 rfl (lv_at hl 1 rfl) ?_
        refine fx_Vs (rest := []) (sp_placed l dC dI A cI cA cZ (mC y cI cZ n ar gl lo pm ca ac hw mK F T Ln Wy Fo Tk Ne ++ pool) z n hn (nI ar) gl fl pr pg ky (nI ac) K B M Ds Bf L) hF (cw_RL_56 hts ⟨Nat.le_of_ble_eq_true rfl, Nat.le_of_ble_eq_true rfl⟩) hA hS hP hK hD hNw 0 0 rfl rfl rfl hl.1 rfl (Nat.le_of_ble_eq_true rfl) dL_law_311 ⟨by show cells ≤ 600000; omega, by show slots ≤ 7302249; omega⟩ (fun r1 h1 => ?_)
        refine lv_pop hx hb dL_law_314 rfl ?_
        refine lv_aload_n hx hb dL_law_315 rfl (lv_at hl 2 rfl) ?_
        refine fx_Vs (rest := []) (sq_placed l dC dI A cI cA cZ pool (xc0 z n (nI ar) gl fl pr pg ky (nI ac)) (xcI z 1 cI n K) (xcI z 2 cI n B) (xcI z 3 cI 32 M) (xcQ z 4 cA n L) (xcI z 5 cI n Ds) (xcI z 6 cI n Bf) y n hn ar gl lo pm ca ac hw mK F T Ln Wy Fo Tk Ne) hF (cw_RL_59 hts ⟨Nat.le_of_ble_eq_true rfl, Nat.le_of_ble_eq_true rfl⟩) hA hS hP hK hD hNw 7 2 rfl rfl rfl hl.1 rfl (Nat.le_of_ble_eq_true rfl) dL_law_316 ⟨by show cells ≤ 600000; omega, by show slots ≤ 7302249; omega⟩ (fun r2 h2 => ?_)
        refine lv_pop hx hb dL_law_319 rfl ?_
        refine lv_goto (tgt := 471) hx hb dL_law_320 (by decide) ?_
        exact KT ac fl pr pg ky K B M Ds Bf L pool as lo pm ca hw mK F T Ln Wy Fo Tk Ne H locs cells slots ls (hI) (by omega) (by omega) hP hD hS hl
      · -- 9
        refine lv_tableIn (tgt := 323) (off := 261) hx hb dL_law_62 (by decide) (by decide) (by decide) (by decide) ?_
        refine lv_aload_n hx hb dL_law_323 rfl (lv_at hl 1 rfl) ?_
        refine lv_aload_n hx hb dL_law_324 rfl (lv_at hl 0 rfl) ?_
        refine lv_iload_n hx hb dL_law_325 rfl (lv_at hl 3 rfl) ?_
        refine lv_iconst (v := 1) hx hb dL_law_326 (by decide) ?_
        refine lv_iadd hx hb dL_law_327 ?_
        refine fx_sld hx hb hX hbl hbA hS (i + 1) (nI_add i 1) (by omega) hN31 dL_law_328 ?_
        refine lv_aload_n hx hb dL_law_329 rfl (lv_at hl 0 rfl) ?_
        refine lv_iload_n hx hb dL_law_330 rfl (lv_at hl 3 rfl) ?_
        refine lv_iconst (v := 2) hx hb dL_law_331 (by decide) ?_
        refine lv_iadd hx hb dL_law_332 ?_
        refine fx_sld hx hb hX hbl hbA hS (i + 2) (nI_add i 2) (by omega) hN31 dL_law_333 ?_
        refine lv_aload_n hx hb dL_law_334 rfl (lv_at hl 0 rfl) ?_
        refine lv_iload_n hx hb dL_law_335 rfl (lv_at hl 3 rfl) ?_
        refine lv_iconst (v := 3) hx hb dL_law_336 (by decide) ?_
        refine lv_iadd hx hb dL_law_337 ?_
        refine fx_sld hx hb hX hbl hbA hS (i + 3) (nI_add i 3) (by omega) hN31 dL_law_338 ?_
        refine fx_Vi (rest := []) (sp_arc l dC dI A cI cA cZ (mC y cI cZ n ar gl lo pm ca ac hw mK F T Ln Wy Fo Tk Ne ++ pool) z n hn (nI ar) gl fl pr pg ky (nI ac) K B M Ds Bf L (xs (i + 1)) (xs (i + 2)) (xs (i + 3))) hF (cw_RL_60 hts ⟨Nat.le_of_ble_eq_true rfl, Nat.le_of_ble_eq_true rfl⟩) hA hS hP hK hD hNw 0 0 rfl rfl rfl hl.1 rfl (Nat.le_of_ble_eq_true rfl) dL_law_339 ⟨by show cells + 1 ≤ 600000; omega, by show slots + 3 ≤ 7302249; omega⟩ (fun r1 u1 H locs h1 hP hD hS => ?_)
        cases u1 with
        | none =>
          have h0 : fqarcR n (nI ar) gl (nI ac) (xs (i + 1)) (xs (i + 2)) (xs (i + 3)) ≠ 0 := fun h9 => by obtain ⟨q, h8⟩ := h1.2.mp (h1.1.trans h9); cases h8
          have hP : va_P (dC, dI) classes (wX z cI cA n (nI ar) gl fl pr pg ky (nI ac) K B M Ds Bf L ++ (mC y cI cZ n ar gl lo pm ca ac hw mK F T Ln Wy Fo Tk Ne ++ pool)) H := hP
          have hD : va_D A (wX z cI cA n (nI ar) gl fl pr pg ky (nI ac) K B M Ds Bf L ++ (mC y cI cZ n ar gl lo pm ca ac hw mK F T Ln Wy Fo Tk Ne ++ pool)) := hD
          refine lv_pop hx hb dL_law_342 rfl ?_
          refine lv_aload_n hx hb dL_law_343 rfl (lv_at hl 2 rfl) ?_
          refine lv_aload_n hx hb dL_law_344 rfl (lv_at hl 0 rfl) ?_
          refine lv_iload_n hx hb dL_law_345 rfl (lv_at hl 3 rfl) ?_
          refine lv_iconst (v := 1) hx hb dL_law_346 (by decide) ?_
          refine lv_iadd hx hb dL_law_347 ?_
          refine fx_sld hx hb hX hbl hbA hS (i + 1) (nI_add i 1) (by omega) hN31 dL_law_348 ?_
          refine lv_aload_n hx hb dL_law_349 rfl (lv_at hl 0 rfl) ?_
          refine lv_iload_n hx hb dL_law_350 rfl (lv_at hl 3 rfl) ?_
          refine lv_iconst (v := 2) hx hb dL_law_351 (by decide) ?_
          refine lv_iadd hx hb dL_law_352 ?_
          refine fx_sld hx hb hX hbl hbA hS (i + 2) (nI_add i 2) (by omega) hN31 dL_law_353 ?_
          refine lv_aload_n hx hb dL_law_354 rfl (lv_at hl 0 rfl) ?_
          refine lv_iload_n hx hb dL_law_355 rfl (lv_at hl 3 rfl) ?_
          refine lv_iconst (v := 3) hx hb dL_law_356 (by decide) ?_
          refine lv_iadd hx hb dL_law_357 ?_
          refine fx_sld hx hb hX hbl hbA hS (i + 3) (nI_add i 3) (by omega) hN31 dL_law_358 ?_
          refine fx_Vi (rest := []) (sq_arc l dC dI A cI cA cZ pool (xc0 z n (nI ar) gl fl pr pg ky (nI ac)) (xcI z 1 cI n K) (xcI z 2 cI n B) (xcI z 3 cI 32 M) (xcQ z 4 cA n L) (xcI z 5 cI n Ds) (xcI z 6 cI n Bf) y n hn ar gl lo pm ca ac hw mK F T Ln Wy Fo Tk Ne (xs (i + 1)) (xs (i + 2)) (xs (i + 3)) har hac) hF (cw_RL_64 hts ⟨Nat.le_of_ble_eq_true rfl, Nat.le_of_ble_eq_true rfl⟩) hA hS hP hK hD hNw 7 2 rfl rfl rfl hl.1 rfl (Nat.le_of_ble_eq_true rfl) dL_law_359 ⟨by show (cells + 1) + 0 ≤ 600000; omega, by show (slots + 3) + 0 ≤ 7302249; omega⟩ (fun r2 u2 H locs h2 hP hD hS => ?_)
          rw [mqarc_n (s := (ac, hw, F, T, Ln)) h0] at h2
          obtain ⟨rfl, rfl⟩ := Prod.mk.inj h2
          have hP : va_P (dC, dI) classes (wX z cI cA n (nI ar) gl fl pr pg ky (nI ac) K B M Ds Bf L ++ (mC y cI cZ n ar gl lo pm ca ac hw mK F T Ln Wy Fo Tk Ne ++ pool)) H := hP
          have hD : va_D A (wX z cI cA n (nI ar) gl fl pr pg ky (nI ac) K B M Ds Bf L ++ (mC y cI cZ n ar gl lo pm ca ac hw mK F T Ln Wy Fo Tk Ne ++ pool)) := hD
          refine lv_pop hx hb dL_law_362 rfl ?_
          refine lv_goto (tgt := 471) hx hb dL_law_363 (by decide) ?_
          exact KT ac fl pr pg ky K B M Ds Bf L pool as lo pm ca hw mK F T Ln Wy Fo Tk Ne H locs (cells + 1) (slots + 3) ls (hI) (by omega) (by omega) hP hD hS hl
        | some q =>
          have h0 : fqarcR n (nI ar) gl (nI ac) (xs (i + 1)) (xs (i + 2)) (xs (i + 3)) = 0 := h1.1.symm.trans (h1.2.mpr ⟨q, rfl⟩)
          rw [nI_1 ac] at hP hD
          have hP : va_P (dC, dI) classes (wX z cI cA n (nI ar) gl fl pr pg ky (nI (ac + 1)) K B M (fqfill n (-1) Ds) (fqfill n (-1) Bf) (va_up L (fqn (xs (i + 1))) (some q)) ++ (mC y cI cZ n ar gl lo pm ca ac hw mK F T Ln Wy Fo Tk Ne ++ (pool ++ [(q, .inr (1, [.int (xs (i + 2)), .int (xs (i + 3)), va_rf (L (fqn (xs (i + 1))))]))]))) H := hP
          have hD : va_D A (wX z cI cA n (nI ar) gl fl pr pg ky (nI (ac + 1)) K B M (fqfill n (-1) Ds) (fqfill n (-1) Bf) (va_up L (fqn (xs (i + 1))) (some q)) ++ (mC y cI cZ n ar gl lo pm ca ac hw mK F T Ln Wy Fo Tk Ne ++ (pool ++ [(q, .inr (1, [.int (xs (i + 2)), .int (xs (i + 3)), va_rf (L (fqn (xs (i + 1))))]))]))) := hD
          refine lv_pop hx hb dL_law_342 rfl ?_
          refine lv_aload_n hx hb dL_law_343 rfl (lv_at hl 2 rfl) ?_
          refine lv_aload_n hx hb dL_law_344 rfl (lv_at hl 0 rfl) ?_
          refine lv_iload_n hx hb dL_law_345 rfl (lv_at hl 3 rfl) ?_
          refine lv_iconst (v := 1) hx hb dL_law_346 (by decide) ?_
          refine lv_iadd hx hb dL_law_347 ?_
          refine fx_sld hx hb hX hbl hbA hS (i + 1) (nI_add i 1) (by omega) hN31 dL_law_348 ?_
          refine lv_aload_n hx hb dL_law_349 rfl (lv_at hl 0 rfl) ?_
          refine lv_iload_n hx hb dL_law_350 rfl (lv_at hl 3 rfl) ?_
          refine lv_iconst (v := 2) hx hb dL_law_351 (by decide) ?_
          refine lv_iadd hx hb dL_law_352 ?_
          refine fx_sld hx hb hX hbl hbA hS (i + 2) (nI_add i 2) (by omega) hN31 dL_law_353 ?_
          refine lv_aload_n hx hb dL_law_354 rfl (lv_at hl 0 rfl) ?_
          refine lv_iload_n hx hb dL_law_355 rfl (lv_at hl 3 rfl) ?_
          refine lv_iconst (v := 3) hx hb dL_law_356 (by decide) ?_
          refine lv_iadd hx hb dL_law_357 ?_
          refine fx_sld hx hb hX hbl hbA hS (i + 3) (nI_add i 3) (by omega) hN31 dL_law_358 ?_
          refine fx_Vi (rest := []) (sq_arc l dC dI A cI cA cZ (pool ++ [(q, .inr (1, [.int (xs (i + 2)), .int (xs (i + 3)), va_rf (L (fqn (xs (i + 1))))]))]) (xc0 z n (nI ar) gl fl pr pg ky (nI (ac + 1))) (xcI z 1 cI n K) (xcI z 2 cI n B) (xcI z 3 cI 32 M) (xcQ z 4 cA n (va_up L (fqn (xs (i + 1))) (some q))) (xcI z 5 cI n (fqfill n (-1) Ds)) (xcI z 6 cI n (fqfill n (-1) Bf)) y n hn ar gl lo pm ca ac hw mK F T Ln Wy Fo Tk Ne (xs (i + 1)) (xs (i + 2)) (xs (i + 3)) har hac) hF (cw_RL_64 hts ⟨Nat.le_of_ble_eq_true rfl, Nat.le_of_ble_eq_true rfl⟩) hA hS hP hK hD hNw 7 2 rfl rfl rfl hl.1 rfl (Nat.le_of_ble_eq_true rfl) dL_law_359 ⟨by show (cells + 1) + 0 ≤ 600000; omega, by show (slots + 3) + 0 ≤ 7302249; omega⟩ (fun r2 u2 H locs h2 hP hD hS => ?_)
          rw [mqarc_0 (s := (ac, hw, F, T, Ln)) h0] at h2
          obtain ⟨rfl, rfl⟩ := Prod.mk.inj h2
          have hP : va_P (dC, dI) classes (wX z cI cA n (nI ar) gl fl pr pg ky (nI (ac + 1)) K B M (fqfill n (-1) Ds) (fqfill n (-1) Bf) (va_up L (fqn (xs (i + 1))) (some q)) ++ (mC y cI cZ n ar gl lo pm ca (ac + 1) 0 mK (upd F ac (xs (i + 1))) (upd T ac (xs (i + 2))) (upd Ln ac (xs (i + 3))) Wy Fo Tk Ne ++ (pool ++ [(q, .inr (1, [.int (xs (i + 2)), .int (xs (i + 3)), va_rf (L (fqn (xs (i + 1))))]))]))) H := hP
          have hD : va_D A (wX z cI cA n (nI ar) gl fl pr pg ky (nI (ac + 1)) K B M (fqfill n (-1) Ds) (fqfill n (-1) Bf) (va_up L (fqn (xs (i + 1))) (some q)) ++ (mC y cI cZ n ar gl lo pm ca (ac + 1) 0 mK (upd F ac (xs (i + 1))) (upd T ac (xs (i + 2))) (upd Ln ac (xs (i + 3))) Wy Fo Tk Ne ++ (pool ++ [(q, .inr (1, [.int (xs (i + 2)), .int (xs (i + 3)), va_rf (L (fqn (xs (i + 1))))]))]))) := hD
          refine lv_pop hx hb dL_law_362 rfl ?_
          refine lv_goto (tgt := 471) hx hb dL_law_363 (by decide) ?_
          exact KT (ac + 1) fl pr pg ky K B M (fqfill n (-1) Ds) (fqfill n (-1) Bf) (va_up L (fqn (xs (i + 1))) (some q)) (pool ++ [(q, .inr (1, [.int (xs (i + 2)), .int (xs (i + 3)), va_rf (L (fqn (xs (i + 1))))]))]) (fqas as (fqn (xs (i + 1))) (xs (i + 2)) (xs (i + 3))) lo pm ca 0 mK (upd F ac (xs (i + 1))) (upd T ac (xs (i + 2))) (upd Ln ac (xs (i + 3))) Wy Fo Tk Ne H locs (cells + 1) (slots + 3) ls (li_arc hn har hI h0) (by omega) (by omega) hP hD hS hl
      · -- 10
        refine lv_tableIn (tgt := 366) (off := 304) hx hb dL_law_62 (by decide) (by decide) (by decide) (by decide) ?_
        refine lv_aload_n hx hb dL_law_366 rfl (lv_at hl 1 rfl) ?_
        refine lv_aload_n hx hb dL_law_367 rfl (lv_at hl 0 rfl) ?_
        refine lv_iload_n hx hb dL_law_368 rfl (lv_at hl 3 rfl) ?_
        refine lv_iconst (v := 1) hx hb dL_law_369 (by decide) ?_
        refine lv_iadd hx hb dL_law_370 ?_
        refine fx_sld hx hb hX hbl hbA hS (i + 1) (nI_add i 1) (by omega) hN31 dL_law_371 ?_
        refine fx_Vi (rest := []) (sp_run l dC dI A cI cA cZ (mC y cI cZ n ar gl lo pm ca ac hw mK F T Ln Wy Fo Tk Ne ++ pool) z n hn (nI ar) gl fl pr pg ky (nI ac) K B M Ds Bf L as (xs (i + 1)) (fun i9 h9 => ⟨fqch_pre _ _ (hch i9 h9).1, (hch i9 h9).2⟩) hs) hF (cw_RL_65 hts ⟨Nat.le_of_ble_eq_true rfl, Nat.le_of_ble_eq_true rfl⟩) hA hS hP hK hD hNw 0 0 rfl rfl rfl hl.1 rfl (Nat.le_of_ble_eq_true rfl) dL_law_372 ⟨by show cells + 0 ≤ 600000; omega, by show slots + 0 ≤ 7302249; omega⟩ (fun r1 u1 H locs h1 hP hD hS => ?_)
        obtain ⟨⟨fl2, pr2, pg2, ky2, K2, B2, M2⟩, Ds2, Bf2⟩ := u1
        have hP : va_P (dC, dI) classes (wX z cI cA n (nI ar) gl fl2 pr2 pg2 ky2 (nI ac) K2 B2 M2 Ds2 Bf2 L ++ (mC y cI cZ n ar gl lo pm ca ac hw mK F T Ln Wy Fo Tk Ne ++ pool)) H := hP
        have hD : va_D A (wX z cI cA n (nI ar) gl fl2 pr2 pg2 ky2 (nI ac) K2 B2 M2 Ds2 Bf2 L ++ (mC y cI cZ n ar gl lo pm ca ac hw mK F T Ln Wy Fo Tk Ne ++ pool)) := hD
        refine lv_pop hx hb dL_law_375 rfl ?_
        refine lv_aload_n hx hb dL_law_376 rfl (lv_at hl 2 rfl) ?_
        refine lv_aload_n hx hb dL_law_377 rfl (lv_at hl 0 rfl) ?_
        refine lv_iload_n hx hb dL_law_378 rfl (lv_at hl 3 rfl) ?_
        refine lv_iconst (v := 1) hx hb dL_law_379 (by decide) ?_
        refine lv_iadd hx hb dL_law_380 ?_
        refine fx_sld hx hb hX hbl hbA hS (i + 1) (nI_add i 1) (by omega) hN31 dL_law_381 ?_
        refine fx_Vi (rest := []) (sq_run l dC dI A cI cA cZ pool (xc0 z n (nI ar) gl fl2 pr2 pg2 ky2 (nI ac)) (xcI z 1 cI n K2) (xcI z 2 cI n B2) (xcI z 3 cI 32 M2) (xcQ z 4 cA n L) (xcI z 5 cI n Ds2) (xcI z 6 cI n Bf2) y n hn ar gl lo pm ca ac hw mK F T Ln Wy Fo Tk Ne (xs (i + 1)) (by omega) hnet) hF (cw_RL_68 hts ⟨Nat.le_of_ble_eq_true rfl, Nat.le_of_ble_eq_true rfl⟩) hA hS hP hK hD hNw 7 2 rfl rfl rfl hl.1 rfl (Nat.le_of_ble_eq_true rfl) dL_law_382 ⟨by show cells + 0 ≤ 600000; omega, by show slots + 0 ≤ 7302249; omega⟩ (fun r2 u2 H locs h2 hP hD hS => ?_)
        obtain ⟨⟨⟨lo2, pm2, ca2, mK2⟩, Wy2, Fo2, Tk2⟩, Ne2, hw2⟩ := u2
        have hP : va_P (dC, dI) classes (wX z cI cA n (nI ar) gl fl2 pr2 pg2 ky2 (nI ac) K2 B2 M2 Ds2 Bf2 L ++ (mC y cI cZ n ar gl lo2 pm2 ca2 ac hw2 mK2 F T Ln Wy2 Fo2 Tk2 Ne2 ++ pool)) H := hP
        have hD : va_D A (wX z cI cA n (nI ar) gl fl2 pr2 pg2 ky2 (nI ac) K2 B2 M2 Ds2 Bf2 L ++ (mC y cI cZ n ar gl lo2 pm2 ca2 ac hw2 mK2 F T Ln Wy2 Fo2 Tk2 Ne2 ++ pool)) := hD
        refine lv_pop hx hb dL_law_385 rfl ?_
        refine lv_goto (tgt := 471) hx hb dL_law_386 (by decide) ?_
        exact KT ac fl2 pr2 pg2 ky2 K2 B2 M2 Ds2 Bf2 L pool as lo2 pm2 ca2 hw2 mK2 F T Ln Wy2 Fo2 Tk2 Ne2 H locs cells slots ls (li_run hn hI h1 h2) (by omega) (by omega) hP hD hS hl
      · -- 11
        refine lv_tableIn (tgt := 389) (off := 327) hx hb dL_law_62 (by decide) (by decide) (by decide) (by decide) ?_
        refine lv_aload_n hx hb dL_law_389 rfl (lv_at hl 1 rfl) ?_
        refine lv_aload_n hx hb dL_law_390 rfl (lv_at hl 0 rfl) ?_
        refine lv_iload_n hx hb dL_law_391 rfl (lv_at hl 3 rfl) ?_
        refine lv_iconst (v := 1) hx hb dL_law_392 (by decide) ?_
        refine lv_iadd hx hb dL_law_393 ?_
        refine fx_sld hx hb hX hbl hbA hS (i + 1) (nI_add i 1) (by omega) hN31 dL_law_394 ?_
        refine fx_Vs (rest := []) (sp_distance l dC dI A cI cA cZ (mC y cI cZ n ar gl lo pm ca ac hw mK F T Ln Wy Fo Tk Ne ++ pool) z n hn (nI ar) gl fl pr pg ky (nI ac) K B M Ds Bf L (xs (i + 1))) hF (cw_RL_69 hts ⟨Nat.le_of_ble_eq_true rfl, Nat.le_of_ble_eq_true rfl⟩) hA hS hP hK hD hNw 0 0 rfl rfl rfl hl.1 rfl (Nat.le_of_ble_eq_true rfl) dL_law_395 ⟨by show cells ≤ 600000; omega, by show slots ≤ 7302249; omega⟩ (fun r1 h1 => ?_)
        refine lv_pop hx hb dL_law_398 rfl ?_
        refine lv_aload_n hx hb dL_law_399 rfl (lv_at hl 2 rfl) ?_
        refine lv_aload_n hx hb dL_law_400 rfl (lv_at hl 0 rfl) ?_
        refine lv_iload_n hx hb dL_law_401 rfl (lv_at hl 3 rfl) ?_
        refine lv_iconst (v := 1) hx hb dL_law_402 (by decide) ?_
        refine lv_iadd hx hb dL_law_403 ?_
        refine fx_sld hx hb hX hbl hbA hS (i + 1) (nI_add i 1) (by omega) hN31 dL_law_404 ?_
        refine fx_Vs (rest := []) (sq_distance l dC dI A cI cA cZ pool (xc0 z n (nI ar) gl fl pr pg ky (nI ac)) (xcI z 1 cI n K) (xcI z 2 cI n B) (xcI z 3 cI 32 M) (xcQ z 4 cA n L) (xcI z 5 cI n Ds) (xcI z 6 cI n Bf) y n hn ar gl lo pm ca ac hw mK F T Ln Wy Fo Tk Ne (xs (i + 1))) hF (cw_RL_72 hts ⟨Nat.le_of_ble_eq_true rfl, Nat.le_of_ble_eq_true rfl⟩) hA hS hP hK hD hNw 7 2 rfl rfl rfl hl.1 rfl (Nat.le_of_ble_eq_true rfl) dL_law_405 ⟨by show cells ≤ 600000; omega, by show slots ≤ 7302249; omega⟩ (fun r2 h2 => ?_)
        refine lv_pop hx hb dL_law_408 rfl ?_
        refine lv_goto (tgt := 471) hx hb dL_law_409 (by decide) ?_
        exact KT ac fl pr pg ky K B M Ds Bf L pool as lo pm ca hw mK F T Ln Wy Fo Tk Ne H locs cells slots ls (hI) (by omega) (by omega) hP hD hS hl
      · -- 12
        refine lv_tableIn (tgt := 412) (off := 350) hx hb dL_law_62 (by decide) (by decide) (by decide) (by decide) ?_
        refine lv_aload_n hx hb dL_law_412 rfl (lv_at hl 1 rfl) ?_
        refine lv_aload_n hx hb dL_law_413 rfl (lv_at hl 0 rfl) ?_
        refine lv_iload_n hx hb dL_law_414 rfl (lv_at hl 3 rfl) ?_
        refine lv_iconst (v := 1) hx hb dL_law_415 (by decide) ?_
        refine lv_iadd hx hb dL_law_416 ?_
        refine fx_sld hx hb hX hbl hbA hS (i + 1) (nI_add i 1) (by omega) hN31 dL_law_417 ?_
        refine fx_Vs (rest := []) (sp_before l dC dI A cI cA cZ (mC y cI cZ n ar gl lo pm ca ac hw mK F T Ln Wy Fo Tk Ne ++ pool) z n hn (nI ar) gl fl pr pg ky (nI ac) K B M Ds Bf L (xs (i + 1))) hF (cw_RL_73 hts ⟨Nat.le_of_ble_eq_true rfl, Nat.le_of_ble_eq_true rfl⟩) hA hS hP hK hD hNw 0 0 rfl rfl rfl hl.1 rfl (Nat.le_of_ble_eq_true rfl) dL_law_418 ⟨by show cells ≤ 600000; omega, by show slots ≤ 7302249; omega⟩ (fun r1 h1 => ?_)
        refine lv_pop hx hb dL_law_421 rfl ?_
        refine lv_aload_n hx hb dL_law_422 rfl (lv_at hl 2 rfl) ?_
        refine lv_aload_n hx hb dL_law_423 rfl (lv_at hl 0 rfl) ?_
        refine lv_iload_n hx hb dL_law_424 rfl (lv_at hl 3 rfl) ?_
        refine lv_iconst (v := 1) hx hb dL_law_425 (by decide) ?_
        refine lv_iadd hx hb dL_law_426 ?_
        refine fx_sld hx hb hX hbl hbA hS (i + 1) (nI_add i 1) (by omega) hN31 dL_law_427 ?_
        refine fx_Vs (rest := []) (sq_before l dC dI A cI cA cZ pool (xc0 z n (nI ar) gl fl pr pg ky (nI ac)) (xcI z 1 cI n K) (xcI z 2 cI n B) (xcI z 3 cI 32 M) (xcQ z 4 cA n L) (xcI z 5 cI n Ds) (xcI z 6 cI n Bf) y n hn ar gl lo pm ca ac hw mK F T Ln Wy Fo Tk Ne (xs (i + 1))) hF (cw_RL_76 hts ⟨Nat.le_of_ble_eq_true rfl, Nat.le_of_ble_eq_true rfl⟩) hA hS hP hK hD hNw 7 2 rfl rfl rfl hl.1 rfl (Nat.le_of_ble_eq_true rfl) dL_law_428 ⟨by show cells ≤ 600000; omega, by show slots ≤ 7302249; omega⟩ (fun r2 h2 => ?_)
        refine lv_pop hx hb dL_law_431 rfl ?_
        refine lv_goto (tgt := 471) hx hb dL_law_432 (by decide) ?_
        exact KT ac fl pr pg ky K B M Ds Bf L pool as lo pm ca hw mK F T Ln Wy Fo Tk Ne H locs cells slots ls (hI) (by omega) (by omega) hP hD hS hl
      · -- 13
        refine lv_tableIn (tgt := 435) (off := 373) hx hb dL_law_62 (by decide) (by decide) (by decide) (by decide) ?_
        refine lv_aload_n hx hb dL_law_435 rfl (lv_at hl 1 rfl) ?_
        refine fx_Vs (rest := []) (sp_sound l dC dI A cI cA cZ (mC y cI cZ n ar gl lo pm ca ac hw mK F T Ln Wy Fo Tk Ne ++ pool) z n hn (nI ar) gl fl pr pg ky (nI ac) K B M Ds Bf L hs) hF (cw_RL_77 hts ⟨Nat.le_of_ble_eq_true rfl, Nat.le_of_ble_eq_true rfl⟩) hA hS hP hK hD hNw 0 0 rfl rfl rfl hl.1 rfl (Nat.le_of_ble_eq_true rfl) dL_law_436 ⟨by show cells ≤ 600000; omega, by show slots ≤ 7302249; omega⟩ (fun r1 h1 => ?_)
        refine lv_pop hx hb dL_law_439 rfl ?_
        refine lv_aload_n hx hb dL_law_440 rfl (lv_at hl 2 rfl) ?_
        refine fx_Vs (rest := []) (sq_sound l dC dI A cI cA cZ pool (xc0 z n (nI ar) gl fl pr pg ky (nI ac)) (xcI z 1 cI n K) (xcI z 2 cI n B) (xcI z 3 cI 32 M) (xcQ z 4 cA n L) (xcI z 5 cI n Ds) (xcI z 6 cI n Bf) y n hn ar gl lo pm ca ac hw mK F T Ln Wy Fo Tk Ne) hF (cw_RL_81 hts ⟨Nat.le_of_ble_eq_true rfl, Nat.le_of_ble_eq_true rfl⟩) hA hS hP hK hD hNw 7 2 rfl rfl rfl hl.1 rfl (Nat.le_of_ble_eq_true rfl) dL_law_441 ⟨by show cells ≤ 600000; omega, by show slots ≤ 7302249; omega⟩ (fun r2 h2 => ?_)
        refine lv_pop hx hb dL_law_444 rfl ?_
        refine lv_goto (tgt := 471) hx hb dL_law_445 (by decide) ?_
        exact KT ac fl pr pg ky K B M Ds Bf L pool as lo pm ca hw mK F T Ln Wy Fo Tk Ne H locs cells slots ls (hI) (by omega) (by omega) hP hD hS hl
      · -- 14
        refine lv_tableIn (tgt := 448) (off := 386) hx hb dL_law_62 (by decide) (by decide) (by decide) (by decide) ?_
        refine lv_aload_n hx hb dL_law_448 rfl (lv_at hl 1 rfl) ?_
        refine lv_aload_n hx hb dL_law_449 rfl (lv_at hl 0 rfl) ?_
        refine lv_iload_n hx hb dL_law_450 rfl (lv_at hl 3 rfl) ?_
        refine lv_iconst (v := 1) hx hb dL_law_451 (by decide) ?_
        refine lv_iadd hx hb dL_law_452 ?_
        refine fx_sld hx hb hX hbl hbA hS (i + 1) (nI_add i 1) (by omega) hN31 dL_law_453 ?_
        refine fx_Vs (rest := []) (sp_count l dC dI A cI cA cZ (mC y cI cZ n ar gl lo pm ca ac hw mK F T Ln Wy Fo Tk Ne ++ pool) z n hn (nI ar) gl fl pr pg ky (nI ac) K B M Ds Bf L (xs (i + 1))) hF (cw_RL_82 hts ⟨Nat.le_of_ble_eq_true rfl, Nat.le_of_ble_eq_true rfl⟩) hA hS hP hK hD hNw 0 0 rfl rfl rfl hl.1 rfl (Nat.le_of_ble_eq_true rfl) dL_law_454 ⟨by show cells ≤ 600000; omega, by show slots ≤ 7302249; omega⟩ (fun r1 h1 => ?_)
        refine lv_pop hx hb dL_law_457 rfl ?_
        refine lv_aload_n hx hb dL_law_458 rfl (lv_at hl 2 rfl) ?_
        refine lv_aload_n hx hb dL_law_459 rfl (lv_at hl 0 rfl) ?_
        refine lv_iload_n hx hb dL_law_460 rfl (lv_at hl 3 rfl) ?_
        refine lv_iconst (v := 1) hx hb dL_law_461 (by decide) ?_
        refine lv_iadd hx hb dL_law_462 ?_
        refine fx_sld hx hb hX hbl hbA hS (i + 1) (nI_add i 1) (by omega) hN31 dL_law_463 ?_
        refine fx_Vs (rest := []) (sq_count l dC dI A cI cA cZ pool (xc0 z n (nI ar) gl fl pr pg ky (nI ac)) (xcI z 1 cI n K) (xcI z 2 cI n B) (xcI z 3 cI 32 M) (xcQ z 4 cA n L) (xcI z 5 cI n Ds) (xcI z 6 cI n Bf) y n hn ar gl lo pm ca ac hw mK F T Ln Wy Fo Tk Ne (xs (i + 1))) hF (cw_RL_85 hts ⟨Nat.le_of_ble_eq_true rfl, Nat.le_of_ble_eq_true rfl⟩) hA hS hP hK hD hNw 7 2 rfl rfl rfl hl.1 rfl (Nat.le_of_ble_eq_true rfl) dL_law_464 ⟨by show cells ≤ 600000; omega, by show slots ≤ 7302249; omega⟩ (fun r2 h2 => ?_)
        refine lv_pop hx hb dL_law_467 rfl ?_
        refine lv_goto (tgt := 471) hx hb dL_law_468 (by decide) ?_
        exact KT ac fl pr pg ky K B M Ds Bf L pool as lo pm ca hw mK F T Ln Wy Fo Tk Ne H locs cells slots ls (hI) (by omega) (by omega) hP hD hS hl
      · -- 15
        refine lv_tableOut (tgt := 471) hx hb dL_law_62 (Or.inr (by decide)) (by decide) ?_
        exact KT ac fl pr pg ky K B M Ds Bf L pool as lo pm ca hw mK F T Ln Wy Fo Tk Ne H locs cells slots ls (hI) (by omega) (by omega) hP hD hS hl
