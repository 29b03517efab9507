/-! ===== the tables hold what the machine's tables say ===== -/
def xgood (w : Cond) : Bool := goodWord w || (match w with
  | .fieldLinkNest .. => true
  | .methodLinkNest .. => true
  | _ => false)
def xT : List Cond := lw_tbl.filter xgood
def xwd (M : xM) : Cond := .code M.1 M.2.1 M.2.2.1 M.2.2.2.1
def xPn : String := "RopeShore$Person"
def xHo : String := "RopeShore"
def xGo : String := "RopeShore$Gossip"
/-- the words that an instruction asks of the tables -/
def xneed (y : MethodName) : xI → List Cond
  | (.getfield k, _, (a, b, c, _, _), _) => match xcl[a]? with
    | some q => [if c < 10 then .fieldLink y.cls k q.1 (q.2.1 b).2.1 (q.2.1 b).2.2.1 else .fieldLinkNest y.cls k q.1 (q.2.1 b).2.1 (q.2.1 b).2.2.1 xHo]
    | none => []
  | (.putfield k, _, (a, b, c, _, _), _) => match xcl[a]? with
    | some q => [if c < 10 then .fieldLink y.cls k q.1 (q.2.1 b).2.1 (q.2.1 b).2.2.1 else .fieldLinkNest y.cls k q.1 (q.2.1 b).2.1 (q.2.1 b).2.2.1 xHo]
    | none => []
  | (.ldc k, _, (_, _, _, v, _), _) => [.constant y.cls k v]
  | (.ldc_w k, _, (_, _, _, v, _), _) => [.constant y.cls k v]
  | (.ldc2_w k, _, (a, _, _, _, _), _) => [.constantLong y.cls k (Int64.ofNat a)]
  | (.getstatic k, _, (a, _, _, _, _), _) => if a = 0 then [.fieldLink y.cls k "RopeShore" "ABOVE" "[I"] else [.fieldLink y.cls k "RopeShore$Text" "NAMES" "[C"]
  | (.invokestatic k, _, (a, _, c, _, _), _) => if c = 2 then [.methodLink y.cls k arraycopyName, .native arraycopyName, .static arraycopyName, .initialized "java/lang/System"]
    else if c = 3 then [.methodLink y.cls k Lib.Math.min.name, .static Lib.Math.min.name, .initialized "java/lang/Math", .code Lib.Math.min.name Lib.Math.min.code 2 (some .int)]
    else if c = 4 then [.methodLink y.cls k Lib.Math.max.name, .static Lib.Math.max.name, .initialized "java/lang/Math", .code Lib.Math.max.name Lib.Math.max.code 2 (some .int)]
    else match xMs[a]? with
    | some M => [if c = 0 then .methodLink y.cls k M.1 else .methodLinkNest y.cls k M.1 xHo, .static M.1, .initialized M.1.cls, xwd M]
    | none => []
  | (.invokevirtual k, _, (a, _, c, _, l), _) => l.flatMap fun q => match xcl[q.1]?, xMs[q.2]? with
    | some C, some M => if c < 2 then [if c = 0 then .methodLink y.cls k M.1 else .methodLinkNest y.cls k M.1 xHo, .instanceMethod M.1, .selects C.1 M.1 M.1, .initialized M.1.cls, xwd M]
      else match xMs[a]? with
        | some M0 => [.methodLink y.cls k ⟨if c = 2 then xPn else xGo, M0.1.name, M0.1.desc⟩, .sameMethod (if c = 2 then xPn else xGo) xPn M0.1.name M0.1.desc, .selects C.1 ⟨if c = 2 then xPn else xGo, M0.1.name, M0.1.desc⟩ M.1, .instanceMethod M.1, .initialized M.1.cls, xwd M, .instanceMethod M0.1, xwd M0]
        | none => []
    | _, _ => []
  | (.invokespecial k, _, (a, _, c, _, _), _) => match xMs[a]? with
    | some M => if c = 0 then [.methodLink y.cls k M.1, .sameMethod M.1.cls M.1.cls M.1.name M.1.desc, .superclass y.cls M.1.cls, .instanceMethod M.1, .initialized M.1.cls, xwd M]
      else [.methodLink y.cls k ⟨xGo, M.1.name, M.1.desc⟩, .sameMethod xGo M.1.cls M.1.name M.1.desc, .superclass y.cls xGo, .instanceMethod M.1, .initialized M.1.cls, xwd M, .superclass xGo M.1.cls]
    | none => []
  | _ => []
def xplain (y : MethodName) (n : Nat) : Bool := decide (y.cls ≠ "java/lang/invoke/MethodHandle") && decide (y.cls ≠ "java/lang/invoke/VarHandle") && decide ((parseMethodDescriptor y.desc).map (fun d => d.parameters.length) = some n)
/-- what else must hold of an instruction -/
def xoth (rt : Option FieldType) (pc : Nat) : xI → Bool
  | (.iconst n, L, (_, _, _, v, _), _) => decide (L = 1) && decide (Int32.ofInt n = v)
  | (.bipush n, L, (_, _, _, v, _), _) => decide (L = 2) && decide ((Int8.ofInt n).toInt32 = v)
  | (.sipush n, L, (_, _, _, v, _), _) => decide (L = 3) && decide ((Int16.ofInt n).toInt32 = v)
  | (.iinc _ n, L, (_, _, _, v, _), _) => decide (L = 3) && decide (Int32.ofInt n = v)
  | (.ifCond _ o, L, (a, _, _, _, _), _) => decide (L = 3) && decide ((pc : Int) + o = (a : Int))
  | (.if_icmp _ o, L, (a, _, _, _, _), _) => decide (L = 3) && decide ((pc : Int) + o = (a : Int))
  | (.goto o, L, (a, _, _, _, _), _) => decide (L = 3) && decide ((pc : Int) + o = (a : Int))
  | (.tableswitch d lo hi os, _, (_, b, _, _, l), _) => decide ((pc : Int) + d = (b : Int)) && decide (l.map (fun q => (q.1 : Int)) = (List.range os.size).map (fun (i : Nat) => lo + (i : Int))) && decide (l.map (fun q => (q.2 : Int)) = os.toList.map (fun o => (pc : Int) + o)) && decide (hi + 1 - lo = (os.size : Int)) && decide (0 ≤ lo ∧ hi < 1000)
  | (.lookupswitch d ps, _, (_, b, _, _, l), _) => decide ((pc : Int) + d = (b : Int)) && decide (l.map (fun q => ((q.1 : Int), (q.2 : Int))) = ps.toList.map (fun q => (q.1, (pc : Int) + q.2))) && (ps.toList.zip (ps.toList.drop 1)).all (fun (a, next) => a.1 < next.1) && l.all (fun q => decide (q.1 < 1000))
  | (.getfield _, L, (a, b, _, _, _), _) => decide (L = 3) && (match xcl[a]? with
    | some q => decide (b < q.2.2) && decide ((q.2.1 b).1 = q.1)
    | none => false)
  | (.putfield _, L, (a, b, c, _, _), _) => decide (L = 3) && (match xcl[a]? with
    | some q => decide (b < q.2.2) && decide ((q.2.1 b).1 = q.1) && decide ((q.2.1 b).2.2.2 = false) && decide (c % 10 = 0 ∧ (q.2.1 b).2.2.1 = "I" ∨ c % 10 = 1 ∧ (q.2.1 b).2.2.1 = "Z" ∨ 2 ≤ c % 10)
    | none => false)
  | (.getstatic _, L, (a, _, _, _, _), _) => decide (L = 3) && decide (a < 2)
  | (.invokestatic _, L, (a, b, c, _, _), _) => decide (L = 3) && (decide (2 ≤ c) || (match xMs[a]? with
    | some M => xplain M.1 b
    | none => false))
  | (.invokevirtual _, L, (a, b, c, _, l), _) => decide (L = 3) && l.all (fun q => match xcl[q.1]?, xMs[q.2]? with
    | some _, some M => xplain M.1 b && (decide (c < 2) || (match xMs[a]? with
      | some M0 => decide (M0.1.cls = xPn) && decide ((parseMethodDescriptor M0.1.desc).map (fun d => d.parameters.length) = some b)
      | none => false))
    | _, _ => false)
  | (.invokespecial _, L, (a, b, _, _, _), _) => decide (L = 3) && (match xMs[a]? with
    | some M => xplain M.1 b && decide (M.1.name ≠ "<init>")
    | none => false)
  | (.ireturn, L, (_, _, c, _, _), _) => decide (L = 1) && (decide (c = 0 ∧ rt = some .int) || decide (c = 1 ∧ rt = some .boolean))
  | (.areturn, L, _, _) => decide (L = 1) && (match rt with
    | some (.object _) => true
    | _ => false)
  | (.return_, L, _, _) => decide (L = 1) && decide (rt = none)
  | (.ldc _, L, _, _) => decide (L = 2)
  | (.ldc_w _, L, _, _) => decide (L = 3)
  | (.ldc2_w _, L, _, _) => decide (L = 3)
  | (.iload _, L, _, _) => decide (L = 2)
  | (.aload _, L, _, _) => decide (L = 2)
  | (.lload _, L, _, _) => decide (L = 2)
  | (.istore _, L, _, _) => decide (L = 2)
  | (.astore _, L, _, _) => decide (L = 2)
  | (_, L, _, _) => decide (L = 1)
def xchk1 (M : xM) (pc : Nat) : Bool := match M.2.2.2.2.1 pc with
  | none => true
  | some I => decide (decode M.2.1 pc = .ok (I.1, I.2.1)) && xoth M.2.2.2.1 pc I && decide ((xneed M.1 I).map some = I.2.2.2.map (fun k => lw_tbl[k]?)) && (xneed M.1 I).all xgood
def xchk (M : xM) : Bool := plainName M.1.cls && decide (M.2.2.1 ≤ 20) && (List.range M.2.2.2.2.2).all (xchk1 M)
theorem xc_Integer_bitCount : xchk xm_Integer_bitCount = true := by decide +kernel
theorem xc_Vo_start : xchk xm_Vo_start = true := by decide +kernel
theorem xc_Vo_begin : xchk xm_Vo_begin = true := by decide +kernel
theorem xc_Person_gives : xchk xm_Person_gives = true := by decide +kernel
theorem xc_Person_turns : xchk xm_Person_turns = true := by decide +kernel
theorem xc_Person_say : xchk xm_Person_say = true := by decide +kernel
theorem xc_Person_let : xchk xm_Person_let = true := by decide +kernel
theorem xc_Person_haul : xchk xm_Person_haul = true := by decide +kernel
theorem xc_Person_part : xchk xm_Person_part = true := by decide +kernel
theorem xc_Gossip_gives : xchk xm_Gossip_gives = true := by decide +kernel
theorem xc_Gossip_turns : xchk xm_Gossip_turns = true := by decide +kernel
theorem xc_Gossip_say : xchk xm_Gossip_say = true := by decide +kernel
theorem xc_Gossip_part : xchk xm_Gossip_part = true := by decide +kernel
theorem xc_Mayor_gives : xchk xm_Mayor_gives = true := by decide +kernel
theorem xc_Mayor_turns : xchk xm_Mayor_turns = true := by decide +kernel
theorem xc_Mayor_let : xchk xm_Mayor_let = true := by decide +kernel
theorem xc_Cutter_gives : xchk xm_Cutter_gives = true := by decide +kernel
theorem xc_Cutter_haul : xchk xm_Cutter_haul = true := by decide +kernel
theorem xc_Doctor_gives : xchk xm_Doctor_gives = true := by decide +kernel
theorem xc_Doctor_turns : xchk xm_Doctor_turns = true := by decide +kernel
theorem xc_Doctor_say : xchk xm_Doctor_say = true := by decide +kernel
theorem xc_Doctor_haul : xchk xm_Doctor_haul = true := by decide +kernel
theorem xc_Judge_gives : xchk xm_Judge_gives = true := by decide +kernel
theorem xc_Judge_turns : xchk xm_Judge_turns = true := by decide +kernel
theorem xc_Judge_let : xchk xm_Judge_let = true := by decide +kernel
theorem xc_Widow_gives : xchk xm_Widow_gives = true := by decide +kernel
theorem xc_Widow_turns : xchk xm_Widow_turns = true := by decide +kernel
theorem xc_Widow_say : xchk xm_Widow_say = true := by decide +kernel
theorem xc_Widow_let : xchk xm_Widow_let = true := by decide +kernel
theorem xc_Se_isMissing : xchk xm_Se_isMissing = true := by decide +kernel
theorem xc_Se_renew : xchk xm_Se_renew = true := by decide +kernel
theorem xc_Se_set : xchk xm_Se_set = true := by decide +kernel
theorem xc_Se_holds : xchk xm_Se_holds = true := by decide +kernel
theorem xc_Tx_isThere : xchk xm_Tx_isThere = true := by decide +kernel
theorem xc_Tx_forget : xchk xm_Tx_forget = true := by decide +kernel
theorem xc_Tx_copy : xchk xm_Tx_copy = true := by decide +kernel
theorem xc_Tx_reads : xchk xm_Tx_reads = true := by decide +kernel
theorem xc_Tx_place : xchk xm_Tx_place = true := by decide +kernel
theorem xc_Tx_next : xchk xm_Tx_next = true := by decide +kernel
theorem xc_Tx_readParts : xchk xm_Tx_readParts = true := by decide +kernel
theorem xc_Tx_bindsOf : xchk xm_Tx_bindsOf = true := by decide +kernel
theorem xc_Tx_readSingle : xchk xm_Tx_readSingle = true := by decide +kernel
theorem xc_Tx_close : xchk xm_Tx_close = true := by decide +kernel
theorem xc_Tx_isDigit : xchk xm_Tx_isDigit = true := by decide +kernel
theorem xc_Tx_readNumber : xchk xm_Tx_readNumber = true := by decide +kernel
theorem xc_Tx_nameOf : xchk xm_Tx_nameOf = true := by decide +kernel
theorem xc_Tx_add : xchk xm_Tx_add = true := by decide +kernel
theorem xc_Tx_value : xchk xm_Tx_value = true := by decide +kernel
theorem xc_Tx_worked : xchk xm_Tx_worked = true := by decide +kernel
theorem xc_Sh_copy : xchk xm_Sh_copy = true := by decide +kernel
theorem xc_Sh_has : xchk xm_Sh_has = true := by decide +kernel
theorem xc_Sh_setKind : xchk xm_Sh_setKind = true := by decide +kernel
theorem xc_Sh_kindOf : xchk xm_Sh_kindOf = true := by decide +kernel
theorem xc_Sh_isAshore : xchk xm_Sh_isAshore = true := by decide +kernel
theorem xc_Sh_said : xchk xm_Sh_said = true := by decide +kernel
theorem xc_Sh_say : xchk xm_Sh_say = true := by decide +kernel
theorem xc_Sh_lawGives : xchk xm_Sh_lawGives = true := by decide +kernel
theorem xc_Sh_ropeBy : xchk xm_Sh_ropeBy = true := by decide +kernel
theorem xc_Sh_ropeOf : xchk xm_Sh_ropeOf = true := by decide +kernel
theorem xc_Sh_dayGoesBy : xchk xm_Sh_dayGoesBy = true := by decide +kernel
theorem xc_Sh_turnWords : xchk xm_Sh_turnWords = true := by decide +kernel
theorem xc_Sh_drawSeaAndSwimmer : xchk xm_Sh_drawSeaAndSwimmer = true := by decide +kernel
theorem xc_Sh_draw : xchk xm_Sh_draw = true := by decide +kernel
theorem xc_R_person : xchk xm_R_person = true := by decide +kernel
theorem xc_R_personIs : xchk xm_R_personIs = true := by decide +kernel
theorem xc_R_become : xchk xm_R_become = true := by decide +kernel
theorem xc_R_as : xchk xm_R_as = true := by decide +kernel
theorem xc_R_tells : xchk xm_R_tells = true := by decide +kernel
theorem xc_R_rope : xchk xm_R_rope = true := by decide +kernel
theorem xc_R_swim : xchk xm_R_swim = true := by decide +kernel
theorem xc_R_saves : xchk xm_R_saves = true := by decide +kernel
theorem xc_R_weather : xchk xm_R_weather = true := by decide +kernel
theorem xc_R_feed : xchk xm_R_feed = true := by decide +kernel
theorem xc_R_text : xchk xm_R_text = true := by decide +kernel
theorem xc_R_untell : xchk xm_R_untell = true := by decide +kernel
theorem xc_R_law : xchk xm_R_law = true := by decide +kernel
theorem xc_R_days : xchk xm_R_days = true := by decide +kernel
theorem xc_R_loose : xchk xm_R_loose = true := by decide +kernel
theorem xc_R_seed : xchk xm_R_seed = true := by decide +kernel
theorem xc_R_then : xchk xm_R_then = true := by decide +kernel
theorem xc_R_cuts : xchk xm_R_cuts = true := by decide +kernel
theorem xc_R_hauls : xchk xm_R_hauls = true := by decide +kernel
theorem xc_R_party : xchk xm_R_party = true := by decide +kernel
theorem xc_R_speaks : xchk xm_R_speaks = true := by decide +kernel
theorem xc_R_odds : xchk xm_R_odds = true := by decide +kernel
theorem xc_R_fits : xchk xm_R_fits = true := by decide +kernel
theorem xc_R_voice : xchk xm_R_voice = true := by decide +kernel
theorem xc_R_body : xchk xm_R_body = true := by decide +kernel
theorem xc_R_sheet : xchk xm_R_sheet = true := by decide +kernel
theorem xc_R_put : xchk xm_R_put = true := by decide +kernel
theorem xc_R_move : xchk xm_R_move = true := by decide +kernel
theorem xc_R_words : xchk xm_R_words = true := by decide +kernel
theorem xc_R_judge : xchk xm_R_judge = true := by decide +kernel
theorem xc_R_image : xchk xm_R_image = true := by decide +kernel
theorem xc_R_restore : xchk xm_R_restore = true := by decide +kernel
theorem xc_R_tell : xchk xm_R_tell = true := by decide +kernel
theorem xc_R_check : xchk xm_R_check = true := by decide +kernel
theorem xc_R_count : xchk xm_R_count = true := by decide +kernel
theorem xc_R_told : xchk xm_R_told = true := by decide +kernel
theorem xc_R_error : xchk xm_R_error = true := by decide +kernel
theorem xc_R_within : xchk xm_R_within = true := by decide +kernel
theorem xc_R_held : xchk xm_R_held = true := by decide +kernel
theorem xc_R_isKindAndNumber : xchk xm_R_isKindAndNumber = true := by decide +kernel
theorem xc_R_isUse : xchk xm_R_isUse = true := by decide +kernel
theorem xc_R_isSheet : xchk xm_R_isSheet = true := by decide +kernel
theorem xc_R_isBits : xchk xm_R_isBits = true := by decide +kernel
theorem xc_R_isUnder : xchk xm_R_isUnder = true := by decide +kernel
theorem xc_R_arePair : xchk xm_R_arePair = true := by decide +kernel
theorem xc_R_handsOn : xchk xm_R_handsOn = true := by decide +kernel
theorem xc_R_fewestHolding : xchk xm_R_fewestHolding = true := by decide +kernel
theorem xc_R_holding : xchk xm_R_holding = true := by decide +kernel
theorem xc_R_readRopes : xchk xm_R_readRopes = true := by decide +kernel
theorem xc_R_canBeOut : xchk xm_R_canBeOut = true := by decide +kernel
theorem xc_R_ropeFromOutside : xchk xm_R_ropeFromOutside = true := by decide +kernel
theorem xc_R_gainIfSpoken : xchk xm_R_gainIfSpoken = true := by decide +kernel
theorem xc_R_rightRopes : xchk xm_R_rightRopes = true := by decide +kernel
theorem xc_R_greatestDivisor : xchk xm_R_greatestDivisor = true := by decide +kernel
theorem xc_M_error : xchk xm_M_error = true := by decide +kernel
theorem xc_M_in : xchk xm_M_in = true := by decide +kernel
theorem xc_M_held : xchk xm_M_held = true := by decide +kernel
theorem xc_M_copyAll : xchk xm_M_copyAll = true := by decide +kernel
theorem xc_M_thinks : xchk xm_M_thinks = true := by decide +kernel
theorem xc_M_putsBack : xchk xm_M_putsBack = true := by decide +kernel
theorem xc_M_bits : xchk xm_M_bits = true := by decide +kernel
theorem xc_M_isPerson : xchk xm_M_isPerson = true := by decide +kernel
theorem xc_M_becomes : xchk xm_M_becomes = true := by decide +kernel
theorem xc_M_of : xchk xm_M_of = true := by decide +kernel
theorem xc_M_lets : xchk xm_M_lets = true := by decide +kernel
theorem xc_M_spotOf : xchk xm_M_spotOf = true := by decide +kernel
theorem xc_M_givesTo : xchk xm_M_givesTo = true := by decide +kernel
theorem xc_M_ropeBy : xchk xm_M_ropeBy = true := by decide +kernel
theorem xc_M_ropeNow : xchk xm_M_ropeNow = true := by decide +kernel
theorem xc_M_turnsOf : xchk xm_M_turnsOf = true := by decide +kernel
theorem xc_M_isAshore : xchk xm_M_isAshore = true := by decide +kernel
theorem xc_M_ashoreBut : xchk xm_M_ashoreBut = true := by decide +kernel
theorem xc_M_ropeOfBy : xchk xm_M_ropeOfBy = true := by decide +kernel
theorem xc_M_ropeOf : xchk xm_M_ropeOf = true := by decide +kernel
theorem xc_M_isKm : xchk xm_M_isKm = true := by decide +kernel
theorem xc_M_person : xchk xm_M_person = true := by decide +kernel
theorem xc_M_personIs : xchk xm_M_personIs = true := by decide +kernel
theorem xc_M_become : xchk xm_M_become = true := by decide +kernel
theorem xc_M_as : xchk xm_M_as = true := by decide +kernel
theorem xc_M_areTwo : xchk xm_M_areTwo = true := by decide +kernel
theorem xc_M_tells : xchk xm_M_tells = true := by decide +kernel
theorem xc_M_rope : xchk xm_M_rope = true := by decide +kernel
theorem xc_M_swim : xchk xm_M_swim = true := by decide +kernel
theorem xc_M_saves : xchk xm_M_saves = true := by decide +kernel
theorem xc_M_weather : xchk xm_M_weather = true := by decide +kernel
theorem xc_M_feed : xchk xm_M_feed = true := by decide +kernel
theorem xc_M_look : xchk xm_M_look = true := by decide +kernel
theorem xc_M_lays : xchk xm_M_lays = true := by decide +kernel
theorem xc_M_nameOf : xchk xm_M_nameOf = true := by decide +kernel
theorem xc_M_number : xchk xm_M_number = true := by decide +kernel
theorem xc_M_opens : xchk xm_M_opens = true := by decide +kernel
theorem xc_M_one : xchk xm_M_one = true := by decide +kernel
theorem xc_M_times : xchk xm_M_times = true := by decide +kernel
theorem xc_M_sum : xchk xm_M_sum = true := by decide +kernel
theorem xc_M_compares : xchk xm_M_compares = true := by decide +kernel
theorem xc_M_all : xchk xm_M_all = true := by decide +kernel
theorem xc_M_any : xchk xm_M_any = true := by decide +kernel
theorem xc_M_text : xchk xm_M_text = true := by decide +kernel
theorem xc_M_untell : xchk xm_M_untell = true := by decide +kernel
theorem xc_M_twoOf : xchk xm_M_twoOf = true := by decide +kernel
theorem xc_M_works : xchk xm_M_works = true := by decide +kernel
theorem xc_M_gives : xchk xm_M_gives = true := by decide +kernel
theorem xc_M_law : xchk xm_M_law = true := by decide +kernel
theorem xc_M_goes : xchk xm_M_goes = true := by decide +kernel
theorem xc_M_goesFor : xchk xm_M_goesFor = true := by decide +kernel
theorem xc_M_days : xchk xm_M_days = true := by decide +kernel
theorem xc_M_draw : xchk xm_M_draw = true := by decide +kernel
theorem xc_M_drawn : xchk xm_M_drawn = true := by decide +kernel
theorem xc_M_loose : xchk xm_M_loose = true := by decide +kernel
theorem xc_M_seed : xchk xm_M_seed = true := by decide +kernel
theorem xc_M_then : xchk xm_M_then = true := by decide +kernel
theorem xc_M_isBetter : xchk xm_M_isBetter = true := by decide +kernel
theorem xc_M_cuts : xchk xm_M_cuts = true := by decide +kernel
theorem xc_M_hauls : xchk xm_M_hauls = true := by decide +kernel
theorem xc_M_canAll : xchk xm_M_canAll = true := by decide +kernel
theorem xc_M_party : xchk xm_M_party = true := by decide +kernel
theorem xc_M_speaks : xchk xm_M_speaks = true := by decide +kernel
theorem xc_M_odds : xchk xm_M_odds = true := by decide +kernel
theorem xc_M_rightOf : xchk xm_M_rightOf = true := by decide +kernel
theorem xc_M_fits : xchk xm_M_fits = true := by decide +kernel
theorem xc_M_begins : xchk xm_M_begins = true := by decide +kernel
theorem xc_M_plainSays : xchk xm_M_plainSays = true := by decide +kernel
theorem xc_M_gossipSays : xchk xm_M_gossipSays = true := by decide +kernel
theorem xc_M_says : xchk xm_M_says = true := by decide +kernel
theorem xc_M_plainLets : xchk xm_M_plainLets = true := by decide +kernel
theorem xc_M_mayorLets : xchk xm_M_mayorLets = true := by decide +kernel
theorem xc_M_letsBy : xchk xm_M_letsBy = true := by decide +kernel
theorem xc_M_plainHauls : xchk xm_M_plainHauls = true := by decide +kernel
theorem xc_M_haulsBy : xchk xm_M_haulsBy = true := by decide +kernel
theorem xc_M_plainParts : xchk xm_M_plainParts = true := by decide +kernel
theorem xc_M_partsBy : xchk xm_M_partsBy = true := by decide +kernel
theorem xc_M_voice : xchk xm_M_voice = true := by decide +kernel
theorem xc_M_body : xchk xm_M_body = true := by decide +kernel
theorem xc_M_isSheet : xchk xm_M_isSheet = true := by decide +kernel
theorem xc_M_sheet : xchk xm_M_sheet = true := by decide +kernel
theorem xc_M_notThere : xchk xm_M_notThere = true := by decide +kernel
theorem xc_M_put : xchk xm_M_put = true := by decide +kernel
theorem xc_M_notMoved : xchk xm_M_notMoved = true := by decide +kernel
theorem xc_M_move : xchk xm_M_move = true := by decide +kernel
theorem xc_M_words : xchk xm_M_words = true := by decide +kernel
theorem xc_M_judge : xchk xm_M_judge = true := by decide +kernel
theorem xc_M_image : xchk xm_M_image = true := by decide +kernel
theorem xc_M_restore : xchk xm_M_restore = true := by decide +kernel
theorem xc_M_tell : xchk xm_M_tell = true := by decide +kernel
theorem xc_M_check : xchk xm_M_check = true := by decide +kernel
theorem xc_M_count : xchk xm_M_count = true := by decide +kernel
theorem xc_M_told : xchk xm_M_told = true := by decide +kernel
theorem xnm0 : ∀ a, a < 10 → ∀ b, b < 10 → a ≠ b → (xF0 a).2.1 ≠ (xF0 b).2.1 := by decide +kernel
theorem xty0 : ∀ k, k < 10 → parseFieldDescriptor (xF0 k).2.2.1 = some (xG0 k) := by decide +kernel
theorem xnm1 : ∀ a, a < 15 → ∀ b, b < 15 → a ≠ b → (xF1 a).2.1 ≠ (xF1 b).2.1 := by decide +kernel
theorem xty1 : ∀ k, k < 15 → parseFieldDescriptor (xF1 k).2.2.1 = some (xG1 k) := by decide +kernel
theorem xnm2 : ∀ a, a < 8 → ∀ b, b < 8 → a ≠ b → (xF2 a).2.1 ≠ (xF2 b).2.1 := by decide +kernel
theorem xty2 : ∀ k, k < 8 → parseFieldDescriptor (xF2 k).2.2.1 = some (xG2 k) := by decide +kernel
theorem xnm3 : ∀ a, a < 3 → ∀ b, b < 3 → a ≠ b → (xF3 a).2.1 ≠ (xF3 b).2.1 := by decide +kernel
theorem xty3 : ∀ k, k < 3 → parseFieldDescriptor (xF3 k).2.2.1 = some (xG3 k) := by decide +kernel
theorem xnm4 : ∀ a, a < 5 → ∀ b, b < 5 → a ≠ b → (xF4 a).2.1 ≠ (xF4 b).2.1 := by decide +kernel
theorem xty4 : ∀ k, k < 5 → parseFieldDescriptor (xF4 k).2.2.1 = some (xG4 k) := by decide +kernel
theorem xnm5 : ∀ a, a < 21 → ∀ b, b < 21 → a ≠ b → (xF5 a).2.1 ≠ (xF5 b).2.1 := by decide +kernel
theorem xty5 : ∀ k, k < 21 → parseFieldDescriptor (xF5 k).2.2.1 = some (xG5 k) := by decide +kernel
theorem xnm6 : ∀ a, a < 0 → ∀ b, b < 0 → a ≠ b → (xF6 a).2.1 ≠ (xF6 b).2.1 := by decide +kernel
theorem xty6 : ∀ k, k < 0 → parseFieldDescriptor (xF6 k).2.2.1 = some (xG6 k) := by decide +kernel
theorem xnm7 : ∀ a, a < 0 → ∀ b, b < 0 → a ≠ b → (xF7 a).2.1 ≠ (xF7 b).2.1 := by decide +kernel
theorem xty7 : ∀ k, k < 0 → parseFieldDescriptor (xF7 k).2.2.1 = some (xG7 k) := by decide +kernel
theorem xnm8 : ∀ a, a < 0 → ∀ b, b < 0 → a ≠ b → (xF8 a).2.1 ≠ (xF8 b).2.1 := by decide +kernel
theorem xty8 : ∀ k, k < 0 → parseFieldDescriptor (xF8 k).2.2.1 = some (xG8 k) := by decide +kernel
theorem xnm9 : ∀ a, a < 0 → ∀ b, b < 0 → a ≠ b → (xF9 a).2.1 ≠ (xF9 b).2.1 := by decide +kernel
theorem xty9 : ∀ k, k < 0 → parseFieldDescriptor (xF9 k).2.2.1 = some (xG9 k) := by decide +kernel
theorem xnm10 : ∀ a, a < 0 → ∀ b, b < 0 → a ≠ b → (xF10 a).2.1 ≠ (xF10 b).2.1 := by decide +kernel
theorem xty10 : ∀ k, k < 0 → parseFieldDescriptor (xF10 k).2.2.1 = some (xG10 k) := by decide +kernel
theorem xnm11 : ∀ a, a < 0 → ∀ b, b < 0 → a ≠ b → (xF11 a).2.1 ≠ (xF11 b).2.1 := by decide +kernel
theorem xty11 : ∀ k, k < 0 → parseFieldDescriptor (xF11 k).2.2.1 = some (xG11 k) := by decide +kernel
theorem xnm12 : ∀ a, a < 0 → ∀ b, b < 0 → a ≠ b → (xF12 a).2.1 ≠ (xF12 b).2.1 := by decide +kernel
theorem xty12 : ∀ k, k < 0 → parseFieldDescriptor (xF12 k).2.2.1 = some (xG12 k) := by decide +kernel
theorem xuw_ok : (xcl.zip xuw).all (fun q => decide ((u_ws q.1.1 q.1.2.1 q.1.2.2).map some = q.2.map (fun k => lw_tbl[k]?)) && (u_ws q.1.1 q.1.2.1 q.1.2.2).all xgood) = true := by decide +kernel
