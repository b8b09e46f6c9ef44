/-! Names and tables of the classes, of the fields and of the methods (printed by wip/whole/emitnames.py out of the claim's own names) -/
def RX0 : String := "PuntYard$Bill"
def TX0 : u_T := fun k => match k with
  | 0 => ("PuntYard$Bill", "minutes", "I", false)
  | 1 => ("PuntYard$Bill", "spared", "I", false)
  | 2 => ("PuntYard$Bill", "fullPrice", "I", false)
  | 3 => ("PuntYard$Bill", "price", "I", false)
  | 4 => ("PuntYard$Bill", "lateCoin", "I", false)
  | 5 => ("PuntYard$Bill", "wet", "I", false)
  | 6 => ("PuntYard$Bill", "harm", "I", false)
  | 7 => ("PuntYard$Bill", "cushionCoin", "I", false)
  | 8 => ("PuntYard$Bill", "deposit", "I", false)
  | _ => ("PuntYard$Bill", "from", "I", false)
def tyX0 : Nat → FieldType := fun k => match k with
  | 0 => .int
  | 1 => .int
  | 2 => .int
  | 3 => .int
  | 4 => .int
  | 5 => .int
  | 6 => .int
  | 7 => .int
  | 8 => .int
  | _ => .int
def RX1 : String := "PuntYard$Book"
def TX1 : u_T := fun k => match k with
  | 0 => ("PuntYard$Book", "boats", "I", false)
  | 1 => ("PuntYard$Book", "kindOf", "[I", true)
  | 2 => ("PuntYard$Book", "hires", "I", false)
  | 3 => ("PuntYard$Book", "boatOf", "[I", true)
  | 4 => ("PuntYard$Book", "whoOf", "[I", true)
  | 5 => ("PuntYard$Book", "outAt", "[I", true)
  | 6 => ("PuntYard$Book", "bookedFor", "[I", true)
  | 7 => ("PuntYard$Book", "toldBy", "[I", true)
  | 8 => ("PuntYard$Book", "reaches", "[I", true)
  | 9 => ("PuntYard$Book", "clean", "[I", true)
  | 10 => ("PuntYard$Book", "tellings", "I", false)
  | 11 => ("PuntYard$Book", "deed", "[I", true)
  | 12 => ("PuntYard$Book", "subject", "[I", true)
  | 13 => ("PuntYard$Book", "value", "[I", true)
  | 14 => ("PuntYard$Book", "early", "I", false)
  | _ => ("PuntYard$Book", "late", "I", false)
def tyX1 : Nat → FieldType := fun k => match k with
  | 0 => .int
  | 1 => .array .int
  | 2 => .int
  | 3 => .array .int
  | 4 => .array .int
  | 5 => .array .int
  | 6 => .array .int
  | 7 => .array .int
  | 8 => .array .int
  | 9 => .array .int
  | 10 => .int
  | 11 => .array .int
  | 12 => .array .int
  | 13 => .array .int
  | 14 => .int
  | _ => .int
def RX2 : String := "PuntYard$Demand"
def TX2 : u_T := fun k => match k with
  | 0 => ("PuntYard$Demand", "parts", "[I", true)
  | 1 => ("PuntYard$Demand", "loyals", "I", false)
  | 2 => ("PuntYard$Demand", "patience", "[I", true)
  | 3 => ("PuntYard$Demand", "weight", "[J", true)
  | _ => ("PuntYard$Demand", "nextWeight", "[J", true)
def tyX2 : Nat → FieldType := fun k => match k with
  | 0 => .array .int
  | 1 => .int
  | 2 => .array .int
  | 3 => .array .long
  | _ => .array .long
def RX3 : String := "PuntYard$Dock"
def TX3 : u_T := fun k => match k with
  | 0 => ("PuntYard$Dock", "dryWeeks", "[I", true)
  | 1 => ("PuntYard$Dock", "dryCoin", "[I", true)
  | 2 => ("PuntYard$Dock", "failPart", "[I", true)
  | 3 => ("PuntYard$Dock", "failCoin", "[I", true)
  | 4 => ("PuntYard$Dock", "dry", "[I", true)
  | 5 => ("PuntYard$Dock", "order", "[I", true)
  | 6 => ("PuntYard$Dock", "dryBoats", "I", false)
  | 7 => ("PuntYard$Dock", "best", "I", false)
  | _ => ("PuntYard$Dock", "bestChoice", "I", false)
def tyX3 : Nat → FieldType := fun k => match k with
  | 0 => .array .int
  | 1 => .array .int
  | 2 => .array .int
  | 3 => .array .int
  | 4 => .array .int
  | 5 => .array .int
  | 6 => .int
  | 7 => .int
  | _ => .int
def RX4 : String := "PuntYard$Guides"
def TX4 : u_T := fun k => match k with
  | 0 => ("PuntYard$Guides", "guides", "I", false)
  | 1 => ("PuntYard$Guides", "knows", "[I", true)
  | 2 => ("PuntYard$Guides", "purse", "[I", true)
  | 3 => ("PuntYard$Guides", "parties", "I", false)
  | 4 => ("PuntYard$Guides", "wants", "[I", true)
  | 5 => ("PuntYard$Guides", "pays", "[I", true)
  | 6 => ("PuntYard$Guides", "guideOf", "[I", true)
  | 7 => ("PuntYard$Guides", "served", "I", false)
  | _ => ("PuntYard$Guides", "coinServed", "I", false)
def tyX4 : Nat → FieldType := fun k => match k with
  | 0 => .int
  | 1 => .array .int
  | 2 => .array .int
  | 3 => .int
  | 4 => .array .int
  | 5 => .array .int
  | 6 => .array .int
  | 7 => .int
  | _ => .int
def RX5 : String := "PuntYard$Law"
def TX5 : u_T := fun k => match k with
  | 0 => ("PuntYard$Law", "day", "I", false)
  | 1 => ("PuntYard$Law", "price", "[I", true)
  | 2 => ("PuntYard$Law", "each", "[I", true)
  | 3 => ("PuntYard$Law", "deposit", "[I", true)
  | 4 => ("PuntYard$Law", "rights", "[I", true)
  | 5 => ("PuntYard$Law", "late", "I", false)
  | 6 => ("PuntYard$Law", "lateEach", "I", false)
  | 7 => ("PuntYard$Law", "grace", "I", false)
  | 8 => ("PuntYard$Law", "rainPart", "I", false)
  | 9 => ("PuntYard$Law", "cushion", "I", false)
  | 10 => ("PuntYard$Law", "rules", "I", false)
  | 11 => ("PuntYard$Law", "sort", "[I", true)
  | 12 => ("PuntYard$Law", "part", "[I", true)
  | 13 => ("PuntYard$Law", "from", "[I", true)
  | 14 => ("PuntYard$Law", "to", "[I", true)
  | 15 => ("PuntYard$Law", "codes", "I", false)
  | _ => ("PuntYard$Law", "code", "[I", true)
def tyX5 : Nat → FieldType := fun k => match k with
  | 0 => .int
  | 1 => .array .int
  | 2 => .array .int
  | 3 => .array .int
  | 4 => .array .int
  | 5 => .int
  | 6 => .int
  | 7 => .int
  | 8 => .int
  | 9 => .int
  | 10 => .int
  | 11 => .array .int
  | 12 => .array .int
  | 13 => .array .int
  | 14 => .array .int
  | 15 => .int
  | _ => .array .int
def RX6 : String := "PuntYard$Reader"
def TX6 : u_T := fun k => match k with
  | 0 => ("PuntYard$Reader", "bytes", "[I", true)
  | 1 => ("PuntYard$Reader", "size", "I", false)
  | 2 => ("PuntYard$Reader", "tokens", "[I", true)
  | 3 => ("PuntYard$Reader", "places", "[I", true)
  | 4 => ("PuntYard$Reader", "at", "I", false)
  | _ => ("PuntYard$Reader", "refused", "I", false)
def tyX6 : Nat → FieldType := fun k => match k with
  | 0 => .array .int
  | 1 => .int
  | 2 => .array .int
  | 3 => .array .int
  | 4 => .int
  | _ => .int
def RX7 : String := "PuntYard$River"
def TX7 : u_T := fun k => match k with
  | 0 => ("PuntYard$River", "level", "[I", true)
  | 1 => ("PuntYard$River", "spells", "I", false)
  | 2 => ("PuntYard$River", "spellDay", "[I", true)
  | 3 => ("PuntYard$River", "spellFrom", "[I", true)
  | 4 => ("PuntYard$River", "spellTo", "[I", true)
  | 5 => ("PuntYard$River", "weedRate", "I", false)
  | 6 => ("PuntYard$River", "cuts", "[I", true)
  | 7 => ("PuntYard$River", "nests", "I", false)
  | 8 => ("PuntYard$River", "nestReach", "[I", true)
  | 9 => ("PuntYard$River", "nestFrom", "[I", true)
  | 10 => ("PuntYard$River", "nestTo", "[I", true)
  | 11 => ("PuntYard$River", "regattas", "I", false)
  | 12 => ("PuntYard$River", "raceDay", "[I", true)
  | 13 => ("PuntYard$River", "raceFrom", "[I", true)
  | 14 => ("PuntYard$River", "raceTo", "[I", true)
  | _ => ("PuntYard$River", "raceReaches", "[I", true)
def tyX7 : Nat → FieldType := fun k => match k with
  | 0 => .array .int
  | 1 => .int
  | 2 => .array .int
  | 3 => .array .int
  | 4 => .array .int
  | 5 => .int
  | 6 => .array .int
  | 7 => .int
  | 8 => .array .int
  | 9 => .array .int
  | 10 => .array .int
  | 11 => .int
  | 12 => .array .int
  | 13 => .array .int
  | 14 => .array .int
  | _ => .array .int
def RX8 : String := "PuntYard$Roller"
def TX8 : u_T := fun k => match k with
  | 0 => ("PuntYard$Roller", "boats", "I", false)
  | 1 => ("PuntYard$Roller", "comes", "[I", true)
  | 2 => ("PuntYard$Roller", "takes", "[I", true)
  | 3 => ("PuntYard$Roller", "leastSum", "I", false)
  | 4 => ("PuntYard$Roller", "bestTurn", "[I", true)
  | _ => ("PuntYard$Roller", "turn", "[I", true)
def tyX8 : Nat → FieldType := fun k => match k with
  | 0 => .int
  | 1 => .array .int
  | 2 => .array .int
  | 3 => .int
  | 4 => .array .int
  | _ => .array .int
def RX9 : String := "PuntYard$State"
def TX9 : u_T := fun k => match k with
  | 0 => ("PuntYard$State", "book", "LPuntYard$Book;", true)
  | 1 => ("PuntYard$State", "river", "LPuntYard$River;", true)
  | 2 => ("PuntYard$State", "demand", "LPuntYard$Demand;", true)
  | 3 => ("PuntYard$State", "roller", "LPuntYard$Roller;", true)
  | 4 => ("PuntYard$State", "guides", "LPuntYard$Guides;", true)
  | _ => ("PuntYard$State", "dock", "LPuntYard$Dock;", true)
def tyX9 : Nat → FieldType := fun k => match k with
  | 0 => .object "PuntYard$Book"
  | 1 => .object "PuntYard$River"
  | 2 => .object "PuntYard$Demand"
  | 3 => .object "PuntYard$Roller"
  | 4 => .object "PuntYard$Guides"
  | _ => .object "PuntYard$Dock"
def RX10 : String := "PuntYard$View"
def TX10 : u_T := fun k => match k with
  | 0 => ("PuntYard$View", "book", "LPuntYard$Book;", true)
  | 1 => ("PuntYard$View", "hires", "I", false)
  | 2 => ("PuntYard$View", "backAt", "[I", true)
  | 3 => ("PuntYard$View", "swamped", "[I", true)
  | _ => ("PuntYard$View", "cushioned", "[I", true)
def tyX10 : Nat → FieldType := fun k => match k with
  | 0 => .object "PuntYard$Book"
  | 1 => .int
  | 2 => .array .int
  | 3 => .array .int
  | _ => .array .int
def RX11 : String := "PuntYard"
def TX11 : u_T := fun k => match k with
  | 0 => ("PuntYard", "reader", "LPuntYard$Reader;", true)
  | 1 => ("PuntYard", "laws", "[LPuntYard$Law;", true)
  | 2 => ("PuntYard", "bare", "LPuntYard$Law;", true)
  | 3 => ("PuntYard", "lawCount", "I", false)
  | 4 => ("PuntYard", "faultPlace", "I", false)
  | 5 => ("PuntYard", "now", "LPuntYard$State;", true)
  | 6 => ("PuntYard", "images", "[LPuntYard$State;", true)
  | 7 => ("PuntYard", "imageCount", "I", false)
  | 8 => ("PuntYard", "view", "LPuntYard$View;", true)
  | 9 => ("PuntYard", "otherView", "LPuntYard$View;", true)
  | 10 => ("PuntYard", "drawn", "LPuntYard$Bill;", true)
  | 11 => ("PuntYard", "asked", "[I", true)
  | 12 => ("PuntYard", "wetBy", "[I", true)
  | _ => ("PuntYard", "work", "[I", true)
def tyX11 : Nat → FieldType := fun k => match k with
  | 0 => .object "PuntYard$Reader"
  | 1 => .array (.object "PuntYard$Law")
  | 2 => .object "PuntYard$Law"
  | 3 => .int
  | 4 => .int
  | 5 => .object "PuntYard$State"
  | 6 => .array (.object "PuntYard$State")
  | 7 => .int
  | 8 => .object "PuntYard$View"
  | 9 => .object "PuntYard$View"
  | 10 => .object "PuntYard$Bill"
  | 11 => .array .int
  | 12 => .array .int
  | _ => .array .int
def RX12 : String := "PuntYardModel"
def TX12 : u_T := fun k => match k with
  | 0 => ("PuntYardModel", "laws", "I", false)
  | 1 => ("PuntYardModel", "ruleMany", "I", false)
  | 2 => ("PuntYardModel", "stepMany", "I", false)
  | 3 => ("PuntYardModel", "taped", "I", false)
  | 4 => ("PuntYardModel", "size", "I", false)
  | 5 => ("PuntYardModel", "at", "I", false)
  | 6 => ("PuntYardModel", "deep", "I", false)
  | 7 => ("PuntYardModel", "fault", "I", false)
  | 8 => ("PuntYardModel", "law", "[I", true)
  | 9 => ("PuntYardModel", "lawDay", "[I", true)
  | 10 => ("PuntYardModel", "clauses", "[I", true)
  | 11 => ("PuntYardModel", "clauseKind", "[I", true)
  | 12 => ("PuntYardModel", "clauseFrom", "[I", true)
  | 13 => ("PuntYardModel", "clauseTo", "[I", true)
  | 14 => ("PuntYardModel", "clausePart", "[I", true)
  | 15 => ("PuntYardModel", "stepFrom", "[I", true)
  | 16 => ("PuntYardModel", "stepTo", "[I", true)
  | 17 => ("PuntYardModel", "op", "[I", true)
  | 18 => ("PuntYardModel", "arg", "[I", true)
  | 19 => ("PuntYardModel", "than", "[I", true)
  | 20 => ("PuntYardModel", "here", "[I", true)
  | 21 => ("PuntYardModel", "pile", "[Z", true)
  | 22 => ("PuntYardModel", "tape", "[B", true)
  | 23 => ("PuntYardModel", "text", "[B", true)
  | 24 => ("PuntYardModel", "wordEnd", "I", false)
  | 25 => ("PuntYardModel", "read", "I", false)
  | 26 => ("PuntYardModel", "spells", "I", false)
  | 27 => ("PuntYardModel", "rate", "I", false)
  | 28 => ("PuntYardModel", "early", "I", false)
  | 29 => ("PuntYardModel", "lateBy", "I", false)
  | 30 => ("PuntYardModel", "water", "[I", true)
  | 31 => ("PuntYardModel", "cutOn", "[I", true)
  | 32 => ("PuntYardModel", "spellDay", "[I", true)
  | 33 => ("PuntYardModel", "spellFrom", "[I", true)
  | 34 => ("PuntYardModel", "spellTo", "[I", true)
  | 35 => ("PuntYardModel", "boats", "I", false)
  | 36 => ("PuntYardModel", "hires", "I", false)
  | 37 => ("PuntYardModel", "tellings", "I", false)
  | 38 => ("PuntYardModel", "kindOf", "[I", true)
  | 39 => ("PuntYardModel", "boatOf", "[I", true)
  | 40 => ("PuntYardModel", "whoOf", "[I", true)
  | 41 => ("PuntYardModel", "outAt", "[I", true)
  | 42 => ("PuntYardModel", "booked", "[I", true)
  | 43 => ("PuntYardModel", "toldBy", "[I", true)
  | 44 => ("PuntYardModel", "reaches", "[I", true)
  | 45 => ("PuntYardModel", "clean", "[I", true)
  | 46 => ("PuntYardModel", "tellKind", "[I", true)
  | 47 => ("PuntYardModel", "tellHire", "[I", true)
  | 48 => ("PuntYardModel", "tellOne", "[I", true)
  | 49 => ("PuntYardModel", "tellTwo", "[I", true)
  | 50 => ("PuntYardModel", "backAt", "[I", true)
  | 51 => ("PuntYardModel", "swamped", "[I", true)
  | 52 => ("PuntYardModel", "taken", "[I", true)
  | 53 => ("PuntYardModel", "brought", "[I", true)
  | 54 => ("PuntYardModel", "knownBy", "I", false)
  | 55 => ("PuntYardModel", "other", "[I", true)
  | 56 => ("PuntYardModel", "prices", "[I", true)
  | 57 => ("PuntYardModel", "chances", "[I", true)
  | 58 => ("PuntYardModel", "weigh", "[J", true)
  | 59 => ("PuntYardModel", "next", "[J", true)
  | 60 => ("PuntYardModel", "rolling", "I", false)
  | 61 => ("PuntYardModel", "rolledSum", "I", false)
  | 62 => ("PuntYardModel", "rollAt", "[I", true)
  | 63 => ("PuntYardModel", "rollTakes", "[I", true)
  | 64 => ("PuntYardModel", "turn", "[I", true)
  | 65 => ("PuntYardModel", "rolledTurn", "[I", true)
  | 66 => ("PuntYardModel", "guides", "I", false)
  | 67 => ("PuntYardModel", "parties", "I", false)
  | 68 => ("PuntYardModel", "guideSongs", "[I", true)
  | 69 => ("PuntYardModel", "guideEarned", "[I", true)
  | 70 => ("PuntYardModel", "partySongs", "[I", true)
  | 71 => ("PuntYardModel", "partyCoin", "[I", true)
  | 72 => ("PuntYardModel", "bestLeft", "[I", true)
  | 73 => ("PuntYardModel", "guideOf", "[I", true)
  | 74 => ("PuntYardModel", "weeks", "[I", true)
  | 75 => ("PuntYardModel", "weekCoin", "[I", true)
  | 76 => ("PuntYardModel", "failPart", "[I", true)
  | 77 => ("PuntYardModel", "failCoin", "[I", true)
  | 78 => ("PuntYardModel", "dry", "[I", true)
  | 79 => ("PuntYardModel", "inOrder", "[I", true)
  | 80 => ("PuntYardModel", "dryMany", "I", false)
  | 81 => ("PuntYardModel", "loyals", "I", false)
  | 82 => ("PuntYardModel", "loyal", "[I", true)
  | 83 => ("PuntYardModel", "nests", "I", false)
  | 84 => ("PuntYardModel", "regattas", "I", false)
  | 85 => ("PuntYardModel", "nestReach", "[I", true)
  | 86 => ("PuntYardModel", "nestFrom", "[I", true)
  | 87 => ("PuntYardModel", "nestTo", "[I", true)
  | 88 => ("PuntYardModel", "regattaDay", "[I", true)
  | 89 => ("PuntYardModel", "regattaFrom", "[I", true)
  | 90 => ("PuntYardModel", "regattaTo", "[I", true)
  | 91 => ("PuntYardModel", "regattaSet", "[I", true)
  | 92 => ("PuntYardModel", "images", "I", false)
  | 93 => ("PuntYardModel", "place", "I", false)
  | 94 => ("PuntYardModel", "image", "[I", true)
  | _ => ("PuntYardModel", "some", "[I", true)
def tyX12 : Nat → FieldType := fun k => match k with
  | 0 => .int
  | 1 => .int
  | 2 => .int
  | 3 => .int
  | 4 => .int
  | 5 => .int
  | 6 => .int
  | 7 => .int
  | 8 => .array .int
  | 9 => .array .int
  | 10 => .array .int
  | 11 => .array .int
  | 12 => .array .int
  | 13 => .array .int
  | 14 => .array .int
  | 15 => .array .int
  | 16 => .array .int
  | 17 => .array .int
  | 18 => .array .int
  | 19 => .array .int
  | 20 => .array .int
  | 21 => .array .boolean
  | 22 => .array .byte
  | 23 => .array .byte
  | 24 => .int
  | 25 => .int
  | 26 => .int
  | 27 => .int
  | 28 => .int
  | 29 => .int
  | 30 => .array .int
  | 31 => .array .int
  | 32 => .array .int
  | 33 => .array .int
  | 34 => .array .int
  | 35 => .int
  | 36 => .int
  | 37 => .int
  | 38 => .array .int
  | 39 => .array .int
  | 40 => .array .int
  | 41 => .array .int
  | 42 => .array .int
  | 43 => .array .int
  | 44 => .array .int
  | 45 => .array .int
  | 46 => .array .int
  | 47 => .array .int
  | 48 => .array .int
  | 49 => .array .int
  | 50 => .array .int
  | 51 => .array .int
  | 52 => .array .int
  | 53 => .array .int
  | 54 => .int
  | 55 => .array .int
  | 56 => .array .int
  | 57 => .array .int
  | 58 => .array .long
  | 59 => .array .long
  | 60 => .int
  | 61 => .int
  | 62 => .array .int
  | 63 => .array .int
  | 64 => .array .int
  | 65 => .array .int
  | 66 => .int
  | 67 => .int
  | 68 => .array .int
  | 69 => .array .int
  | 70 => .array .int
  | 71 => .array .int
  | 72 => .array .int
  | 73 => .array .int
  | 74 => .array .int
  | 75 => .array .int
  | 76 => .array .int
  | 77 => .array .int
  | 78 => .array .int
  | 79 => .array .int
  | 80 => .int
  | 81 => .int
  | 82 => .array .int
  | 83 => .int
  | 84 => .int
  | 85 => .array .int
  | 86 => .array .int
  | 87 => .array .int
  | 88 => .array .int
  | 89 => .array .int
  | 90 => .array .int
  | 91 => .array .int
  | 92 => .int
  | 93 => .int
  | 94 => .array .int
  | _ => .array .int
set_option maxRecDepth 20000 in
theorem nmX0 : ∀ a, a < 10 → ∀ b, b < 10 → a ≠ b → (TX0 a).2.1 ≠ (TX0 b).2.1 := by decide +kernel
set_option maxRecDepth 20000 in
theorem tyX0_ok : ∀ k, k < 10 → parseFieldDescriptor (TX0 k).2.2.1 = some (tyX0 k) := by decide +kernel
set_option maxRecDepth 20000 in
theorem nmX1 : ∀ a, a < 16 → ∀ b, b < 16 → a ≠ b → (TX1 a).2.1 ≠ (TX1 b).2.1 := by decide +kernel
set_option maxRecDepth 20000 in
theorem tyX1_ok : ∀ k, k < 16 → parseFieldDescriptor (TX1 k).2.2.1 = some (tyX1 k) := by decide +kernel
set_option maxRecDepth 20000 in
theorem nmX2 : ∀ a, a < 5 → ∀ b, b < 5 → a ≠ b → (TX2 a).2.1 ≠ (TX2 b).2.1 := by decide +kernel
set_option maxRecDepth 20000 in
theorem tyX2_ok : ∀ k, k < 5 → parseFieldDescriptor (TX2 k).2.2.1 = some (tyX2 k) := by decide +kernel
set_option maxRecDepth 20000 in
theorem nmX3 : ∀ a, a < 9 → ∀ b, b < 9 → a ≠ b → (TX3 a).2.1 ≠ (TX3 b).2.1 := by decide +kernel
set_option maxRecDepth 20000 in
theorem tyX3_ok : ∀ k, k < 9 → parseFieldDescriptor (TX3 k).2.2.1 = some (tyX3 k) := by decide +kernel
set_option maxRecDepth 20000 in
theorem nmX4 : ∀ a, a < 9 → ∀ b, b < 9 → a ≠ b → (TX4 a).2.1 ≠ (TX4 b).2.1 := by decide +kernel
set_option maxRecDepth 20000 in
theorem tyX4_ok : ∀ k, k < 9 → parseFieldDescriptor (TX4 k).2.2.1 = some (tyX4 k) := by decide +kernel
set_option maxRecDepth 20000 in
theorem nmX5 : ∀ a, a < 17 → ∀ b, b < 17 → a ≠ b → (TX5 a).2.1 ≠ (TX5 b).2.1 := by decide +kernel
set_option maxRecDepth 20000 in
theorem tyX5_ok : ∀ k, k < 17 → parseFieldDescriptor (TX5 k).2.2.1 = some (tyX5 k) := by decide +kernel
set_option maxRecDepth 20000 in
theorem nmX6 : ∀ a, a < 6 → ∀ b, b < 6 → a ≠ b → (TX6 a).2.1 ≠ (TX6 b).2.1 := by decide +kernel
set_option maxRecDepth 20000 in
theorem tyX6_ok : ∀ k, k < 6 → parseFieldDescriptor (TX6 k).2.2.1 = some (tyX6 k) := by decide +kernel
set_option maxRecDepth 20000 in
theorem nmX7 : ∀ a, a < 16 → ∀ b, b < 16 → a ≠ b → (TX7 a).2.1 ≠ (TX7 b).2.1 := by decide +kernel
set_option maxRecDepth 20000 in
theorem tyX7_ok : ∀ k, k < 16 → parseFieldDescriptor (TX7 k).2.2.1 = some (tyX7 k) := by decide +kernel
set_option maxRecDepth 20000 in
theorem nmX8 : ∀ a, a < 6 → ∀ b, b < 6 → a ≠ b → (TX8 a).2.1 ≠ (TX8 b).2.1 := by decide +kernel
set_option maxRecDepth 20000 in
theorem tyX8_ok : ∀ k, k < 6 → parseFieldDescriptor (TX8 k).2.2.1 = some (tyX8 k) := by decide +kernel
set_option maxRecDepth 20000 in
theorem nmX9 : ∀ a, a < 6 → ∀ b, b < 6 → a ≠ b → (TX9 a).2.1 ≠ (TX9 b).2.1 := by decide +kernel
set_option maxRecDepth 20000 in
theorem tyX9_ok : ∀ k, k < 6 → parseFieldDescriptor (TX9 k).2.2.1 = some (tyX9 k) := by decide +kernel
set_option maxRecDepth 20000 in
theorem nmX10 : ∀ a, a < 5 → ∀ b, b < 5 → a ≠ b → (TX10 a).2.1 ≠ (TX10 b).2.1 := by decide +kernel
set_option maxRecDepth 20000 in
theorem tyX10_ok : ∀ k, k < 5 → parseFieldDescriptor (TX10 k).2.2.1 = some (tyX10 k) := by decide +kernel
set_option maxRecDepth 20000 in
theorem nmX11 : ∀ a, a < 14 → ∀ b, b < 14 → a ≠ b → (TX11 a).2.1 ≠ (TX11 b).2.1 := by decide +kernel
set_option maxRecDepth 20000 in
theorem tyX11_ok : ∀ k, k < 14 → parseFieldDescriptor (TX11 k).2.2.1 = some (tyX11 k) := by decide +kernel
set_option maxRecDepth 20000 in
theorem nmX12 : ∀ a, a < 96 → ∀ b, b < 96 → a ≠ b → (TX12 a).2.1 ≠ (TX12 b).2.1 := by decide +kernel
set_option maxRecDepth 20000 in
theorem tyX12_ok : ∀ k, k < 96 → parseFieldDescriptor (TX12 k).2.2.1 = some (tyX12 k) := by decide +kernel
abbrev clT : List vw_C := [(RX0, TX0, 10), (RX1, TX1, 16), (RX2, TX2, 5), (RX3, TX3, 9), (RX4, TX4, 9), (RX5, TX5, 17), (RX6, TX6, 6), (RX7, TX7, 16), (RX8, TX8, 6), (RX9, TX9, 6), (RX10, TX10, 5), (RX11, TX11, 14), (RX12, TX12, 96)]
def clN (ci : Nat) : Nat := [10, 16, 5, 9, 9, 17, 6, 16, 6, 6, 5, 14, 96].getD ci 0
/-- a field: 0 a number with its key, 1 a cell of the same instance, 2 a cell of a given instance -/
def fkT : List (List (Nat × Nat × Nat)) := [[(0, 100, 0), (0, 101, 0), (0, 102, 0), (0, 103, 0), (0, 104, 0), (0, 105, 0), (0, 106, 0), (0, 107, 0), (0, 108, 0), (0, 109, 0)],
  [(0, 200, 0), (1, 201000020, 0), (0, 202, 0), (1, 203000120, 0), (1, 204000120, 0), (1, 205000120, 0), (1, 206000120, 0), (1, 207000120, 0), (1, 208000120, 0), (1, 209000120, 0), (0, 210, 0), (1, 211000400, 0), (1, 212000400, 0), (1, 213000400, 0), (0, 214, 0), (0, 215, 0)],
  [(1, 300000072, 0), (0, 301, 0), (1, 302000012, 0), (1, 303300036, 0), (1, 304300036, 0)],
  [(1, 400000020, 0), (1, 401000020, 0), (1, 402000020, 0), (1, 403000020, 0), (1, 404000010, 0), (1, 405000010, 0), (0, 406, 0), (0, 407, 0), (0, 408, 0)],
  [(0, 500, 0), (1, 501000008, 0), (1, 502000008, 0), (0, 503, 0), (1, 504000008, 0), (1, 505000008, 0), (1, 506000008, 0), (0, 507, 0), (0, 508, 0)],
  [(0, 600, 0), (1, 601000004, 0), (1, 602000004, 0), (1, 603000004, 0), (1, 604000040, 0), (0, 605, 0), (0, 606, 0), (0, 607, 0), (0, 608, 0), (0, 609, 0), (0, 610, 0), (1, 611000040, 0), (1, 612000040, 0), (1, 613000040, 0), (1, 614000040, 0), (0, 615, 0), (1, 616000300, 0)],
  [(1, 700000900, 0), (0, 701, 0), (1, 702000901, 0), (1, 703000901, 0), (0, 704, 0), (0, 705, 0)],
  [(1, 800000100, 0), (0, 801, 0), (1, 802000040, 0), (1, 803000040, 0), (1, 804000040, 0), (0, 805, 0), (1, 806000100, 0), (0, 807, 0), (1, 808000020, 0), (1, 809000020, 0), (1, 810000020, 0), (0, 811, 0), (1, 812000010, 0), (1, 813000010, 0), (1, 814000010, 0), (1, 815000010, 0)],
  [(0, 900, 0), (1, 901000007, 0), (1, 902000007, 0), (0, 903, 0), (1, 904000007, 0), (1, 905000007, 0)],
  [(1, 900001, 0), (1, 900007, 0), (1, 900002, 0), (1, 900008, 0), (1, 900004, 0), (1, 900003, 0)],
  [(2, 900001, 0), (0, 1101, 0), (1, 1102000120, 0), (1, 1103000120, 0), (1, 1104000120, 0)],
  [(1, 900006, 0), (1, 1201400005, 0), (1, 900005, 0), (0, 1203, 0), (0, 1204, 0), (1, 900009, 0), (1, 1206500003, 0), (0, 1207, 0), (1, 900010, 0), (2, 900010, 1), (1, 900000, 0), (1, 1211000008, 0), (1, 1212000721, 0), (1, 1213002304, 0)],
  [(0, 1300, 0), (0, 1301, 0), (0, 1302, 0), (0, 1303, 0), (0, 1304, 0), (0, 1305, 0), (0, 1306, 0), (0, 1307, 0), (1, 1308000384, 0), (1, 1309000006, 0), (1, 1310000006, 0), (1, 1311000240, 0), (1, 1312000240, 0), (1, 1313000240, 0), (1, 1314000240, 0), (1, 1315000240, 0), (1, 1316000240, 0), (1, 1317002700, 0), (1, 1318002700, 0), (1, 1319002700, 0), (1, 1320000008, 0), (1, 1321200064, 0), (1, 1322100900, 0), (1, 1323100900, 0), (0, 1324, 0), (0, 1325, 0), (0, 1326, 0), (0, 1327, 0), (0, 1328, 0), (0, 1329, 0), (1, 1330000100, 0), (1, 1331000100, 0), (1, 1332000040, 0), (1, 1333000040, 0), (1, 1334000040, 0), (0, 1335, 0), (0, 1336, 0), (0, 1337, 0), (1, 1338000020, 0), (1, 1339000120, 0), (1, 1340000120, 0), (1, 1341000120, 0), (1, 1342000120, 0), (1, 1343000120, 0), (1, 1344000120, 0), (1, 1345000120, 0), (1, 1346000401, 0), (1, 1347000401, 0), (1, 1348000401, 0), (1, 1349000401, 0), (1, 1350000120, 0), (1, 1351000120, 0), (1, 1352000120, 0), (1, 1353000120, 0), (0, 1354, 0), (1, 1355000600, 0), (1, 1356000120, 0), (1, 1357000072, 0), (1, 1358300036, 0), (1, 1359300036, 0), (0, 1360, 0), (0, 1361, 0), (1, 1362000007, 0), (1, 1363000007, 0), (1, 1364000007, 0), (1, 1365000007, 0), (0, 1366, 0), (0, 1367, 0), (1, 1368000008, 0), (1, 1369000008, 0), (1, 1370000008, 0), (1, 1371000008, 0), (1, 1372002304, 0), (1, 1373000008, 0), (1, 1374000020, 0), (1, 1375000020, 0), (1, 1376000020, 0), (1, 1377000020, 0), (1, 1378000020, 0), (1, 1379000020, 0), (0, 1380, 0), (0, 1381, 0), (1, 1382000012, 0), (0, 1383, 0), (0, 1384, 0), (1, 1385000020, 0), (1, 1386000020, 0), (1, 1387000020, 0), (1, 1388000010, 0), (1, 1389000010, 0), (1, 1390000010, 0), (1, 1391000010, 0), (0, 1392, 0), (0, 1393, 0), (1, 1394012600, 0), (1, 1395000013, 0)]]
def fkO (ci k : Nat) : Nat × Nat × Nat := (fkT.getD ci []).getD k (9, 0, 0)
def lwG : List Cond := lw_tbl.filter goodWord
theorem lwG_of {w : Cond} (i : Nat) (h : lw_tbl[i]? = some w) (hg : goodWord w = true) : w ∈ lwG := List.mem_filter.mpr ⟨List.mem_of_getElem? h, hg⟩
theorem lwG_all (ws : List Cond) (ps : List Nat) (h : ps.map (fun i => lw_tbl[i]?) = ws.map some) (hg : ws.all goodWord = true) : ∀ w ∈ ws, w ∈ lwG := by
  intro w hw
  have h1 : some w ∈ ps.map (fun i => lw_tbl[i]?) := by rw [h]; exact List.mem_map_of_mem hw
  obtain ⟨i, -, hi⟩ := List.mem_map.mp h1
  exact lwG_of i hi (List.all_eq_true.mp hg w hw)
set_option maxRecDepth 20000 in
theorem iX0 : ∀ w ∈ u_ws RX0 TX0 10, w ∈ lwG := lwG_all _ [605, 607, 609, 611, 613, 615, 617, 619, 621, 623] (by decide +kernel) (by decide +kernel)
theorem kX0 : Cond.instantiable RX0 10 ∈ lwG ∧ Cond.initialized RX0 ∈ lwG := ⟨lwG_of 586 (by decide +kernel) (by decide +kernel), lwG_of 132 (by decide +kernel) (by decide +kernel)⟩
set_option maxRecDepth 20000 in
theorem iX1 : ∀ w ∈ u_ws RX1 TX1 16, w ∈ lwG := lwG_all _ [307, 309, 311, 313, 315, 317, 319, 321, 323, 325, 327, 329, 331, 333, 335, 337] (by decide +kernel) (by decide +kernel)
theorem kX1 : Cond.instantiable RX1 16 ∈ lwG ∧ Cond.initialized RX1 ∈ lwG := ⟨lwG_of 265 (by decide +kernel) (by decide +kernel), lwG_of 125 (by decide +kernel) (by decide +kernel)⟩
set_option maxRecDepth 20000 in
theorem iX2 : ∀ w ∈ u_ws RX2 TX2 5, w ∈ lwG := lwG_all _ [415, 417, 419, 421, 423] (by decide +kernel) (by decide +kernel)
theorem kX2 : Cond.instantiable RX2 5 ∈ lwG ∧ Cond.initialized RX2 ∈ lwG := ⟨lwG_of 403 (by decide +kernel) (by decide +kernel), lwG_of 127 (by decide +kernel) (by decide +kernel)⟩
set_option maxRecDepth 20000 in
theorem iX3 : ∀ w ∈ u_ws RX3 TX3 9, w ∈ lwG := lwG_all _ [513, 515, 517, 519, 521, 523, 525, 527, 529] (by decide +kernel) (by decide +kernel)
theorem kX3 : Cond.instantiable RX3 9 ∈ lwG ∧ Cond.initialized RX3 ∈ lwG := ⟨lwG_of 496 (by decide +kernel) (by decide +kernel), lwG_of 130 (by decide +kernel) (by decide +kernel)⟩
set_option maxRecDepth 20000 in
theorem iX4 : ∀ w ∈ u_ws RX4 TX4 9, w ∈ lwG := lwG_all _ [476, 478, 480, 482, 484, 486, 488, 490, 492] (by decide +kernel) (by decide +kernel)
theorem kX4 : Cond.instantiable RX4 9 ∈ lwG ∧ Cond.initialized RX4 ∈ lwG := ⟨lwG_of 456 (by decide +kernel) (by decide +kernel), lwG_of 129 (by decide +kernel) (by decide +kernel)⟩
set_option maxRecDepth 20000 in
theorem iX5 : ∀ w ∈ u_ws RX5 TX5 17, w ∈ lwG := lwG_all _ [223, 225, 227, 229, 231, 233, 235, 237, 239, 241, 243, 245, 247, 249, 251, 253, 255] (by decide +kernel) (by decide +kernel)
theorem kX5 : Cond.instantiable RX5 17 ∈ lwG ∧ Cond.initialized RX5 ∈ lwG := ⟨lwG_of 178 (by decide +kernel) (by decide +kernel), lwG_of 122 (by decide +kernel) (by decide +kernel)⟩
set_option maxRecDepth 20000 in
theorem iX6 : ∀ w ∈ u_ws RX6 TX6 6, w ∈ lwG := lwG_all _ [162, 164, 166, 168, 170, 172] (by decide +kernel) (by decide +kernel)
theorem kX6 : Cond.instantiable RX6 6 ∈ lwG ∧ Cond.initialized RX6 ∈ lwG := ⟨lwG_of 150 (by decide +kernel) (by decide +kernel), lwG_of 121 (by decide +kernel) (by decide +kernel)⟩
set_option maxRecDepth 20000 in
theorem iX7 : ∀ w ∈ u_ws RX7 TX7 16, w ∈ lwG := lwG_all _ [369, 371, 373, 375, 377, 379, 381, 383, 385, 387, 389, 391, 393, 395, 397, 399] (by decide +kernel) (by decide +kernel)
theorem kX7 : Cond.instantiable RX7 16 ∈ lwG ∧ Cond.initialized RX7 ∈ lwG := ⟨lwG_of 341 (by decide +kernel) (by decide +kernel), lwG_of 126 (by decide +kernel) (by decide +kernel)⟩
set_option maxRecDepth 20000 in
theorem iX8 : ∀ w ∈ u_ws RX8 TX8 6, w ∈ lwG := lwG_all _ [442, 444, 446, 448, 450, 452] (by decide +kernel) (by decide +kernel)
theorem kX8 : Cond.instantiable RX8 6 ∈ lwG ∧ Cond.initialized RX8 ∈ lwG := ⟨lwG_of 428 (by decide +kernel) (by decide +kernel), lwG_of 128 (by decide +kernel) (by decide +kernel)⟩
set_option maxRecDepth 20000 in
theorem iX9 : ∀ w ∈ u_ws RX9 TX9 6, w ∈ lwG := lwG_all _ [544, 546, 548, 550, 552, 554] (by decide +kernel) (by decide +kernel)
theorem kX9 : Cond.instantiable RX9 6 ∈ lwG ∧ Cond.initialized RX9 ∈ lwG := ⟨lwG_of 259 (by decide +kernel) (by decide +kernel), lwG_of 124 (by decide +kernel) (by decide +kernel)⟩
set_option maxRecDepth 20000 in
theorem iX10 : ∀ w ∈ u_ws RX10 TX10 5, w ∈ lwG := lwG_all _ [574, 576, 578, 580, 582] (by decide +kernel) (by decide +kernel)
theorem kX10 : Cond.instantiable RX10 5 ∈ lwG ∧ Cond.initialized RX10 ∈ lwG := ⟨lwG_of 559 (by decide +kernel) (by decide +kernel), lwG_of 131 (by decide +kernel) (by decide +kernel)⟩
set_option maxRecDepth 20000 in
theorem iX11 : ∀ w ∈ u_ws RX11 TX11 14, w ∈ lwG := lwG_all _ [640, 642, 644, 646, 648, 650, 652, 654, 656, 658, 660, 662, 664, 666] (by decide +kernel) (by decide +kernel)
theorem kX11 : Cond.instantiable RX11 14 ∈ lwG ∧ Cond.initialized RX11 ∈ lwG := ⟨lwG_of 142 (by decide +kernel) (by decide +kernel), lwG_of 120 (by decide +kernel) (by decide +kernel)⟩
set_option maxRecDepth 20000 in
theorem iX12 : ∀ w ∈ u_ws RX12 TX12 96, w ∈ lwG := lwG_all _ [1599, 1601, 1603, 1605, 1607, 1609, 1611, 1613, 1615, 1617, 1619, 1621, 1623, 1625, 1627, 1629, 1631, 1633, 1635, 1637, 1639, 1641, 1643, 1645, 1647, 1649, 1651, 1653, 1655, 1657, 1659, 1661, 1663, 1665, 1667, 1669, 1671, 1673, 1675, 1677, 1679, 1681, 1683, 1685, 1687, 1689, 1691, 1693, 1695, 1697, 1699, 1701, 1703, 1705, 1707, 1709, 1711, 1713, 1715, 1717, 1719, 1721, 1723, 1725, 1727, 1729, 1731, 1733, 1735, 1737, 1739, 1741, 1743, 1745, 1747, 1749, 1751, 1753, 1755, 1757, 1759, 1761, 1763, 1765, 1767, 1769, 1771, 1773, 1775, 1777, 1779, 1781, 1783, 1785, 1787, 1789] (by decide +kernel) (by decide +kernel)
theorem kX12 : Cond.instantiable RX12 96 ∈ lwG ∧ Cond.initialized RX12 ∈ lwG := ⟨lwG_of 1498 (by decide +kernel) (by decide +kernel), lwG_of 133 (by decide +kernel) (by decide +kernel)⟩
/-- all that is known of a class of the table -/
def clOk (C : String) (T : u_T) (N : Nat) : Prop := (∀ w ∈ u_ws C T N, w ∈ lwG) ∧ (∃ ty0 : Nat → FieldType, ∀ k, k < N → parseFieldDescriptor (T k).2.2.1 = some (ty0 k)) ∧ (∀ a, a < N → ∀ b, b < N → a ≠ b → (T a).2.1 ≠ (T b).2.1) ∧ Cond.instantiable C N ∈ lwG ∧ Cond.initialized C ∈ lwG
theorem clT_ok {ci : Nat} {C : String} {T : u_T} {N : Nat} (h : clT[ci]? = some (C, T, N)) : clOk C T N ∧ clN ci = N := by
  match ci, h with
  | 0, h => cases h; exact ⟨⟨iX0, ⟨tyX0, tyX0_ok⟩, nmX0, kX0⟩, rfl⟩
  | 1, h => cases h; exact ⟨⟨iX1, ⟨tyX1, tyX1_ok⟩, nmX1, kX1⟩, rfl⟩
  | 2, h => cases h; exact ⟨⟨iX2, ⟨tyX2, tyX2_ok⟩, nmX2, kX2⟩, rfl⟩
  | 3, h => cases h; exact ⟨⟨iX3, ⟨tyX3, tyX3_ok⟩, nmX3, kX3⟩, rfl⟩
  | 4, h => cases h; exact ⟨⟨iX4, ⟨tyX4, tyX4_ok⟩, nmX4, kX4⟩, rfl⟩
  | 5, h => cases h; exact ⟨⟨iX5, ⟨tyX5, tyX5_ok⟩, nmX5, kX5⟩, rfl⟩
  | 6, h => cases h; exact ⟨⟨iX6, ⟨tyX6, tyX6_ok⟩, nmX6, kX6⟩, rfl⟩
  | 7, h => cases h; exact ⟨⟨iX7, ⟨tyX7, tyX7_ok⟩, nmX7, kX7⟩, rfl⟩
  | 8, h => cases h; exact ⟨⟨iX8, ⟨tyX8, tyX8_ok⟩, nmX8, kX8⟩, rfl⟩
  | 9, h => cases h; exact ⟨⟨iX9, ⟨tyX9, tyX9_ok⟩, nmX9, kX9⟩, rfl⟩
  | 10, h => cases h; exact ⟨⟨iX10, ⟨tyX10, tyX10_ok⟩, nmX10, kX10⟩, rfl⟩
  | 11, h => cases h; exact ⟨⟨iX11, ⟨tyX11, tyX11_ok⟩, nmX11, kX11⟩, rfl⟩
  | 12, h => cases h; exact ⟨⟨iX12, ⟨tyX12, tyX12_ok⟩, nmX12, kX12⟩, rfl⟩
  | ci + 13, h => simp [clT] at h
