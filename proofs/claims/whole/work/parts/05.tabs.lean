/-! TABLES: what the resolved code stands for, checked against the claim (printed by wip/whole/gen/tabs.py) -/
def zk_ys : List MethodName := [⟨"", "", ""⟩, ⟨"SaddlerKnows$CountyReader", "<init>", "(LSaddlerKnows$Tape;)V"⟩,
  ⟨"SaddlerKnows$CountyReader", "firstFault", "()I"⟩,
  ⟨"SaddlerKnows$CountyReader", "readsClause", "()Z"⟩,
  ⟨"SaddlerKnows$CountyReader", "readsRules", "()Z"⟩,
  ⟨"SaddlerKnows$CountyReader", "keepRules", "(II)V"⟩,
  ⟨"SaddlerKnows$CountyReader", "readsPerson", "()Z"⟩,
  ⟨"SaddlerKnows$CountyReader", "readsSaddle", "()Z"⟩,
  ⟨"SaddlerKnows$CountyReader", "begin", "(III)V"⟩,
  ⟨"SaddlerKnows$CountyReader", "readsItems", "(Ljava/lang/String;[I)Z"⟩,
  ⟨"SaddlerKnows$Law", "<init>", "([II)V"⟩,
  ⟨"SaddlerKnows$Law", "worth", "(IIIIII)I"⟩,
  ⟨"SaddlerKnows$Law", "joined", "(IJJ)I"⟩,
  ⟨"SaddlerKnows$Law", "push", "(I)V"⟩,
  ⟨"SaddlerKnows$Law", "pop", "()I"⟩,
  ⟨"SaddlerKnows$LawReader", "<init>", "(LSaddlerKnows$Tape;)V"⟩,
  ⟨"SaddlerKnows$LawReader", "firstFault", "()I"⟩,
  ⟨"SaddlerKnows$LawReader", "readsClause", "()Z"⟩,
  ⟨"SaddlerKnows$LawReader", "readsGuarded", "()Z"⟩,
  ⟨"SaddlerKnows$LawReader", "readsCondition", "(IZ)Z"⟩,
  ⟨"SaddlerKnows$LawReader", "readsTruth", "(IZ)Z"⟩,
  ⟨"SaddlerKnows$LawReader", "readsUnit", "(IZ)Z"⟩,
  ⟨"SaddlerKnows$LawReader", "readsNested", "(II)Z"⟩,
  ⟨"SaddlerKnows$LawReader", "readsSum", "(I)Z"⟩,
  ⟨"SaddlerKnows$LawReader", "readsTerm", "(I)Z"⟩,
  ⟨"SaddlerKnows$LawReader", "readsAtom", "(I)Z"⟩,
  ⟨"SaddlerKnows$LawReader", "emit", "(I)V"⟩,
  ⟨"SaddlerKnows$LawReader", "isComparison", "(I)Z"⟩,
  ⟨"SaddlerKnows$Past", "<init>", "()V"⟩,
  ⟨"SaddlerKnows$Past", "forget", "()V"⟩,
  ⟨"SaddlerKnows$Past", "keep", "(LSaddlerKnows$Stand;)V"⟩,
  ⟨"SaddlerKnows$Past", "takeBack", "(LSaddlerKnows$Stand;)Z"⟩,
  ⟨"SaddlerKnows$Past", "standAt", "(I)LSaddlerKnows$Stand;"⟩,
  ⟨"SaddlerKnows$Past", "takeImage", "(LSaddlerKnows$Stand;)V"⟩,
  ⟨"SaddlerKnows$Past", "goBack", "(LSaddlerKnows$Stand;)Z"⟩,
  ⟨"SaddlerKnows$Past", "write", "(ILSaddlerKnows$Stand;)V"⟩,
  ⟨"SaddlerKnows$Past", "entry", "(II)I"⟩,
  ⟨"SaddlerKnows$Pinches", "<init>", "(LSaddlerKnows$Told;)V"⟩,
  ⟨"SaddlerKnows$Pinches", "addLaw", "(LSaddlerKnows$Law;)V"⟩,
  ⟨"SaddlerKnows$Pinches", "pinchAt", "(IIIII)I"⟩,
  ⟨"SaddlerKnows$Pinches", "wereIt", "(LSaddlerKnows$Stand;III)I"⟩,
  ⟨"SaddlerKnows$Pinches", "inPlace", "(LSaddlerKnows$Stand;I)I"⟩,
  ⟨"SaddlerKnows$Pinches", "loadAt", "(LSaddlerKnows$Stand;III)I"⟩,
  ⟨"SaddlerKnows$Pinches", "loadNow", "(LSaddlerKnows$Stand;I)I"⟩,
  ⟨"SaddlerKnows$Pinches", "galledBy", "(LSaddlerKnows$Stand;III)I"⟩,
  ⟨"SaddlerKnows$Pinches", "bestFit", "(LSaddlerKnows$Stand;II)I"⟩,
  ⟨"SaddlerKnows$Pinches", "firstThrow", "(LSaddlerKnows$Stand;II)I"⟩,
  ⟨"SaddlerKnows$Pinches", "pass", "(LSaddlerKnows$Stand;)I"⟩,
  ⟨"SaddlerKnows$Seating", "<init>", "(LSaddlerKnows$Told;LSaddlerKnows$Pinches;)V"⟩,
  ⟨"SaddlerKnows$Seating", "search", "(LSaddlerKnows$Stand;)V"⟩,
  ⟨"SaddlerKnows$Seating", "seatFrom", "(IIII)V"⟩,
  ⟨"SaddlerKnows$Seeing", "<init>", "(LSaddlerKnows$Told;LSaddlerKnows$Pinches;)V"⟩,
  ⟨"SaddlerKnows$Seeing", "add", "(IIIZ)Z"⟩,
  ⟨"SaddlerKnows$Seeing", "tryFits", "(II)V"⟩,
  ⟨"SaddlerKnows$Seeing", "agreesBehind", "(I)Z"⟩,
  ⟨"SaddlerKnows$Seeing", "fitting", "(I)I"⟩,
  ⟨"SaddlerKnows$Seeing", "fairestMark", "()I"⟩,
  ⟨"SaddlerKnows$Seeing", "apartAt", "(I)I"⟩,
  ⟨"SaddlerKnows$Stand", "<init>", "()V"⟩,
  ⟨"SaddlerKnows$Stand", "begin", "(LSaddlerKnows$Told;)V"⟩,
  ⟨"SaddlerKnows$Stand", "copy", "(LSaddlerKnows$Stand;)V"⟩,
  ⟨"SaddlerKnows$Stand", "isSaddle", "(I)Z"⟩,
  ⟨"SaddlerKnows$Stand", "isOn", "(II)Z"⟩,
  ⟨"SaddlerKnows$Stand", "girth", "(IIII)V"⟩,
  ⟨"SaddlerKnows$Stand", "ungirth", "(I)V"⟩,
  ⟨"SaddlerKnows$Stand", "ungirthAll", "(I)V"⟩,
  ⟨"SaddlerKnows$Stand", "placeOf", "(II)I"⟩,
  ⟨"SaddlerKnows$Stand", "freePlace", "()I"⟩,
  ⟨"SaddlerKnows$Stand", "saddlePlaces", "()I"⟩,
  ⟨"SaddlerKnows$Stand", "saddleCount", "()I"⟩,
  ⟨"SaddlerKnows$Stand", "bearsAny", "(I)Z"⟩,
  ⟨"SaddlerKnows$Stand", "satBy", "(I)I"⟩,
  ⟨"SaddlerKnows$Stand", "sittingPeople", "()I"⟩,
  ⟨"SaddlerKnows$Stand", "allGall", "()I"⟩,
  ⟨"SaddlerKnows$Stand", "riddenBy", "(I)I"⟩,
  ⟨"SaddlerKnows$Stand", "above", "(I)I"⟩,
  ⟨"SaddlerKnows$Stand", "ridesBetween", "(II)I"⟩,
  ⟨"SaddlerKnows$Stitching", "<init>", "(LSaddlerKnows$Pinches;)V"⟩,
  ⟨"SaddlerKnows$Stitching", "search", "(LSaddlerKnows$Stand;II)V"⟩,
  ⟨"SaddlerKnows$Stitching", "searchFrom", "(III)V"⟩,
  ⟨"SaddlerKnows$Stitching", "fitsTold", "()I"⟩,
  ⟨"SaddlerKnows$Tape", "<init>", "()V"⟩,
  ⟨"SaddlerKnows$Tape", "bytesOf", "(I)I"⟩,
  ⟨"SaddlerKnows$Tape", "append", "(I)V"⟩,
  ⟨"SaddlerKnows$Tape", "sign", "()I"⟩,
  ⟨"SaddlerKnows$Tape", "step", "()V"⟩,
  ⟨"SaddlerKnows$Tape", "takes", "(C)Z"⟩,
  ⟨"SaddlerKnows$Tape", "number", "(II)I"⟩,
  ⟨"SaddlerKnows$Tape", "byteHere", "()I"⟩,
  ⟨"SaddlerKnows$Tape", "isDigit", "(I)Z"⟩,
  ⟨"SaddlerKnows$Told", "<init>", "()V"⟩,
  ⟨"SaddlerKnows$Told", "copy", "(LSaddlerKnows$Told;)V"⟩,
  ⟨"SaddlerKnows$Told", "limitOf", "(I)I"⟩,
  ⟨"SaddlerKnows$Told", "isWhole", "()Z"⟩,
  ⟨"SaddlerKnows$Told", "isToldAhead", "(I)Z"⟩,
  ⟨"SaddlerKnows$Told", "waitsFor", "(IIII)I"⟩,
  ⟨"SaddlerKnows$Told", "waitsBest", "(IIII)Z"⟩,
  ⟨"SaddlerKnows", "<init>", "()V"⟩,
  ⟨"SaddlerKnows", "feed", "(IIIII)I"⟩,
  ⟨"SaddlerKnows", "end", "(I)Z"⟩,
  ⟨"SaddlerKnows", "fault", "(I)I"⟩,
  ⟨"SaddlerKnows", "text", "(I)I"⟩,
  ⟨"SaddlerKnows", "takeCounty", "()I"⟩,
  ⟨"SaddlerKnows", "takeLaw", "()I"⟩,
  ⟨"SaddlerKnows", "rule", "(I)I"⟩,
  ⟨"SaddlerKnows", "person", "(II)I"⟩,
  ⟨"SaddlerKnows", "saddle", "(II)I"⟩,
  ⟨"SaddlerKnows", "law", "(I)Z"⟩,
  ⟨"SaddlerKnows", "limit", "(I)I"⟩,
  ⟨"SaddlerKnows", "log", "(II)I"⟩,
  ⟨"SaddlerKnows", "count", "(I)I"⟩,
  ⟨"SaddlerKnows", "weeks", "(I)I"⟩,
  ⟨"SaddlerKnows", "makes", "(III)I"⟩,
  ⟨"SaddlerKnows", "stitch", "(II)I"⟩,
  ⟨"SaddlerKnows", "off", "(I)I"⟩,
  ⟨"SaddlerKnows", "salve", "(I)I"⟩,
  ⟨"SaddlerKnows", "give", "(I)I"⟩,
  ⟨"SaddlerKnows", "status", "(I)I"⟩,
  ⟨"SaddlerKnows", "undo", "()I"⟩,
  ⟨"SaddlerKnows", "rest", "(I)Z"⟩,
  ⟨"SaddlerKnows", "years", "(IJ)I"⟩,
  ⟨"SaddlerKnows", "image", "()I"⟩,
  ⟨"SaddlerKnows", "back", "()I"⟩,
  ⟨"SaddlerKnows", "pinch", "(III)I"⟩,
  ⟨"SaddlerKnows", "best", "(II)I"⟩,
  ⟨"SaddlerKnows", "throwing", "(I)I"⟩,
  ⟨"SaddlerKnows", "bears", "(III)I"⟩,
  ⟨"SaddlerKnows", "ring", "()I"⟩,
  ⟨"SaddlerKnows", "chain", "(II)I"⟩,
  ⟨"SaddlerKnows", "seats", "(I)I"⟩,
  ⟨"SaddlerKnows", "seen", "(IIIZ)I"⟩,
  ⟨"SaddlerKnows", "fits", "(II)I"⟩,
  ⟨"SaddlerKnows", "ask", "(II)I"⟩,
  ⟨"SaddlerKnows", "waiting", "(IIIII)I"⟩,
  ⟨"SaddlerKnows", "rests", "(III)I"⟩,
  ⟨"SaddlerKnows", "odds", "(III)I"⟩,
  ⟨"SaddlerKnows", "shares", "(II)I"⟩,
  ⟨"SaddlerKnows", "most", "(I)I"⟩,
  ⟨"SaddlerKnows", "refused", "(I)I"⟩,
  ⟨"SaddlerKnows", "passWeek", "()V"⟩,
  ⟨"SaddlerKnows", "drawAhead", "()V"⟩,
  ⟨"SaddlerKnows", "draw", "(I)I"⟩,
  ⟨"SaddlerKnows", "loggedWeeks", "()I"⟩,
  ⟨"SaddlerKnows", "hasCounty", "()Z"⟩,
  ⟨"SaddlerKnows", "isPerson", "(I)Z"⟩,
  ⟨"SaddlerKnows", "arePair", "(II)Z"⟩,
  ⟨"SaddlerKnows", "isToldSaddle", "(I)Z"⟩,
  ⟨"SaddlerKnows", "isFit", "(I)Z"⟩,
  ⟨"SaddlerKnows", "partsThrown", "(IIIIII)I"⟩,
  ⟨"SaddlerKnows", "foremost", "(I)I"⟩,
  ⟨"SaddlerKnows", "measure", "(II)I"⟩,
  ⟨"SaddlerKnows", "tightest", "()I"⟩,
  ⟨"SaddlerKnows", "freePeople", "()I"⟩,
  ⟨"SaddlerKnows", "throwingNext", "()I"⟩,
  ⟨"SaddlerKnows", "peopleInRings", "()I"⟩,
  ⟨"SaddlerKnows", "sidePairs", "()I"⟩,
  ⟨"SaddlerKnows", "at", "([II)I"⟩,
  ⟨"SaddlerKnows", "put", "([III)V"⟩,
  ⟨"SaddlerKnows", "copyRow", "([I[I)V"⟩,
  ⟨"SaddlerKnows", "hasBit", "(II)Z"⟩,
  ⟨"SaddlerKnowsModel", "in", "(III)Z"⟩,
  ⟨"SaddlerKnowsModel", "has", "(II)Z"⟩,
  ⟨"SaddlerKnowsModel", "<init>", "()V"⟩,
  ⟨"SaddlerKnowsModel", "thrown", "()I"⟩,
  ⟨"SaddlerKnowsModel", "byteOf", "(IIIIII)I"⟩,
  ⟨"SaddlerKnowsModel", "feed", "(IIIII)I"⟩,
  ⟨"SaddlerKnowsModel", "end", "(I)Z"⟩,
  ⟨"SaddlerKnowsModel", "here", "()I"⟩,
  ⟨"SaddlerKnowsModel", "look", "()I"⟩,
  ⟨"SaddlerKnowsModel", "bad", "()V"⟩,
  ⟨"SaddlerKnowsModel", "isDigit", "(I)Z"⟩,
  ⟨"SaddlerKnowsModel", "put", "(II)V"⟩,
  ⟨"SaddlerKnowsModel", "letterOf", "(I)I"⟩,
  ⟨"SaddlerKnowsModel", "opens", "()V"⟩,
  ⟨"SaddlerKnowsModel", "closes", "(I)V"⟩,
  ⟨"SaddlerKnowsModel", "plainNumber", "()I"⟩,
  ⟨"SaddlerKnowsModel", "atom", "()V"⟩,
  ⟨"SaddlerKnowsModel", "term", "()V"⟩,
  ⟨"SaddlerKnowsModel", "sum", "()V"⟩,
  ⟨"SaddlerKnowsModel", "isSign", "(I)Z"⟩,
  ⟨"SaddlerKnowsModel", "compare", "()V"⟩,
  ⟨"SaddlerKnowsModel", "unit", "()V"⟩,
  ⟨"SaddlerKnowsModel", "goOnAnd", "()V"⟩,
  ⟨"SaddlerKnowsModel", "goOnOr", "()V"⟩,
  ⟨"SaddlerKnowsModel", "condition", "()V"⟩,
  ⟨"SaddlerKnowsModel", "clause", "()V"⟩,
  ⟨"SaddlerKnowsModel", "open", "(I)V"⟩,
  ⟨"SaddlerKnowsModel", "atEnd", "()I"⟩,
  ⟨"SaddlerKnowsModel", "readLaw", "(I)I"⟩,
  ⟨"SaddlerKnowsModel", "bounded", "(J)I"⟩,
  ⟨"SaddlerKnowsModel", "worked", "(IJJ)I"⟩,
  ⟨"SaddlerKnowsModel", "workOut", "(III)I"⟩,
  ⟨"SaddlerKnowsModel", "worthOf", "(I)I"⟩,
  ⟨"SaddlerKnowsModel", "number", "(I)I"⟩,
  ⟨"SaddlerKnowsModel", "itemOf", "(II)I"⟩,
  ⟨"SaddlerKnowsModel", "highest", "(II)I"⟩,
  ⟨"SaddlerKnowsModel", "usual", "(II)I"⟩,
  ⟨"SaddlerKnowsModel", "items", "(I[III)V"⟩,
  ⟨"SaddlerKnowsModel", "isWhole", "()Z"⟩,
  ⟨"SaddlerKnowsModel", "readCounty", "()I"⟩,
  ⟨"SaddlerKnowsModel", "fault", "(I)I"⟩,
  ⟨"SaddlerKnowsModel", "layTold", "()V"⟩,
  ⟨"SaddlerKnowsModel", "takeCounty", "()I"⟩,
  ⟨"SaddlerKnowsModel", "text", "(I)I"⟩,
  ⟨"SaddlerKnowsModel", "isPerson", "(I)Z"⟩,
  ⟨"SaddlerKnowsModel", "areTwo", "(II)Z"⟩,
  ⟨"SaddlerKnowsModel", "ofPerson", "(II)I"⟩,
  ⟨"SaddlerKnowsModel", "of", "(II)I"⟩,
  ⟨"SaddlerKnowsModel", "isThere", "(I)Z"⟩,
  ⟨"SaddlerKnowsModel", "isOn", "(II)Z"⟩,
  ⟨"SaddlerKnowsModel", "limitOf", "(I)I"⟩,
  ⟨"SaddlerKnowsModel", "pinchBy", "(III)I"⟩,
  ⟨"SaddlerKnowsModel", "pinchOf", "(I)I"⟩,
  ⟨"SaddlerKnowsModel", "loadOf", "(I)I"⟩,
  ⟨"SaddlerKnowsModel", "bornBy", "(I)I"⟩,
  ⟨"SaddlerKnowsModel", "satBy", "(I)I"⟩,
  ⟨"SaddlerKnowsModel", "saddleOnes", "()I"⟩,
  ⟨"SaddlerKnowsModel", "allGall", "()I"⟩,
  ⟨"SaddlerKnowsModel", "throwAll", "(I)V"⟩,
  ⟨"SaddlerKnowsModel", "heal", "(I)V"⟩,
  ⟨"SaddlerKnowsModel", "live", "(I)V"⟩,
  ⟨"SaddlerKnowsModel", "passWeek", "()V"⟩,
  ⟨"SaddlerKnowsModel", "aboveOf", "(I)I"⟩,
  ⟨"SaddlerKnowsModel", "rule", "(I)I"⟩,
  ⟨"SaddlerKnowsModel", "person", "(II)I"⟩,
  ⟨"SaddlerKnowsModel", "saddle", "(II)I"⟩,
  ⟨"SaddlerKnowsModel", "law", "(I)Z"⟩,
  ⟨"SaddlerKnowsModel", "keep", "()V"⟩,
  ⟨"SaddlerKnowsModel", "isRefused", "(I)Z"⟩,
  ⟨"SaddlerKnowsModel", "areWeeks", "(I)Z"⟩,
  ⟨"SaddlerKnowsModel", "weeks", "(I)I"⟩,
  ⟨"SaddlerKnowsModel", "freePlace", "()I"⟩,
  ⟨"SaddlerKnowsModel", "sitsOn", "(II)Z"⟩,
  ⟨"SaddlerKnowsModel", "makeNow", "(III)I"⟩,
  ⟨"SaddlerKnowsModel", "makes", "(III)I"⟩,
  ⟨"SaddlerKnowsModel", "stitch", "(II)I"⟩,
  ⟨"SaddlerKnowsModel", "off", "(I)I"⟩,
  ⟨"SaddlerKnowsModel", "salve", "(I)I"⟩,
  ⟨"SaddlerKnowsModel", "give", "(I)I"⟩,
  ⟨"SaddlerKnowsModel", "rest", "(I)Z"⟩,
  ⟨"SaddlerKnowsModel", "draw", "(I)I"⟩,
  ⟨"SaddlerKnowsModel", "drawWeek", "()V"⟩,
  ⟨"SaddlerKnowsModel", "years", "(IJ)I"⟩,
  ⟨"SaddlerKnowsModel", "status", "(I)I"⟩,
  ⟨"SaddlerKnowsModel", "undo", "()I"⟩,
  ⟨"SaddlerKnowsModel", "log", "(II)I"⟩,
  ⟨"SaddlerKnowsModel", "limit", "(I)I"⟩,
  ⟨"SaddlerKnowsModel", "pinch", "(III)I"⟩,
  ⟨"SaddlerKnowsModel", "bestFit", "(II)I"⟩,
  ⟨"SaddlerKnowsModel", "best", "(II)I"⟩,
  ⟨"SaddlerKnowsModel", "putAside", "(I)V"⟩,
  ⟨"SaddlerKnowsModel", "takeBack", "(I)V"⟩,
  ⟨"SaddlerKnowsModel", "throwsIn", "(II)I"⟩,
  ⟨"SaddlerKnowsModel", "throwing", "(I)I"⟩,
  ⟨"SaddlerKnowsModel", "fitsOf", "(I)I"⟩,
  ⟨"SaddlerKnowsModel", "tryFits", "(III)V"⟩,
  ⟨"SaddlerKnowsModel", "tryTwo", "(IIII)V"⟩,
  ⟨"SaddlerKnowsModel", "bears", "(III)I"⟩,
  ⟨"SaddlerKnowsModel", "layAway", "(I)V"⟩,
  ⟨"SaddlerKnowsModel", "ring", "()I"⟩,
  ⟨"SaddlerKnowsModel", "chain", "(II)I"⟩,
  ⟨"SaddlerKnowsModel", "trySeats", "(IIII)V"⟩,
  ⟨"SaddlerKnowsModel", "seats", "(I)I"⟩,
  ⟨"SaddlerKnowsModel", "seen", "(IIIZ)I"⟩,
  ⟨"SaddlerKnowsModel", "layGalls", "(II)V"⟩,
  ⟨"SaddlerKnowsModel", "isFit", "(II)Z"⟩,
  ⟨"SaddlerKnowsModel", "isTold", "(I)Z"⟩,
  ⟨"SaddlerKnowsModel", "fits", "(II)I"⟩,
  ⟨"SaddlerKnowsModel", "ask", "(II)I"⟩,
  ⟨"SaddlerKnowsModel", "waitOf", "(IIII)I"⟩,
  ⟨"SaddlerKnowsModel", "waiting", "(IIIII)I"⟩,
  ⟨"SaddlerKnowsModel", "isRest", "(IIII)Z"⟩,
  ⟨"SaddlerKnowsModel", "rests", "(III)I"⟩,
  ⟨"SaddlerKnowsModel", "oddsFrom", "(IIIII)I"⟩,
  ⟨"SaddlerKnowsModel", "odds", "(III)I"⟩,
  ⟨"SaddlerKnowsModel", "shares", "(II)I"⟩,
  ⟨"SaddlerKnowsModel", "valueOf", "(II)I"⟩,
  ⟨"SaddlerKnowsModel", "topBy", "(I)I"⟩,
  ⟨"SaddlerKnowsModel", "tightest", "()I"⟩,
  ⟨"SaddlerKnowsModel", "freeOnes", "(Z)I"⟩,
  ⟨"SaddlerKnowsModel", "throwers", "()I"⟩,
  ⟨"SaddlerKnowsModel", "inRings", "()I"⟩,
  ⟨"SaddlerKnowsModel", "sides", "()I"⟩,
  ⟨"SaddlerKnowsModel", "most", "(I)I"⟩,
  ⟨"SaddlerKnowsModel", "image", "()I"⟩,
  ⟨"SaddlerKnowsModel", "back", "()I"⟩,
  ⟨"SaddlerKnowsModel", "count", "(I)I"⟩,
  ⟨"java/lang/String", "length", "()I"⟩,
  ⟨"java/lang/String", "indexOf", "(I)I"⟩,
  ⟨"java/lang/String", "indexOf", "(II)I"⟩,
  ⟨"java/lang/String", "coder", "()B"⟩,
  ⟨"java/lang/String", "isLatin1", "()Z"⟩,
  ⟨"java/lang/StringLatin1", "canEncode", "(I)Z"⟩,
  ⟨"java/lang/StringLatin1", "indexOf", "([BIII)I"⟩,
  ⟨"java/lang/StringLatin1", "indexOfChar", "([BIII)I"⟩,
  ⟨"java/lang/Math", "floorMod", "(II)I"⟩,
  ⟨"java/lang/Math", "abs", "(I)I"⟩,
  ⟨"java/lang/Math", "max", "(II)I"⟩,
  ⟨"java/lang/Math", "max", "(JJ)J"⟩,
  ⟨"java/lang/Math", "min", "(II)I"⟩,
  ⟨"java/lang/Math", "min", "(JJ)J"⟩,
  ⟨"java/lang/Integer", "bitCount", "(I)I"⟩,
  ⟨"SaddlerKnowsLaw", "person", "(LSaddlerKnows;II[J)I"⟩,
  ⟨"SaddlerKnowsLaw", "law", "([I)Z"⟩]
def zk_y (y : Nat) : MethodName := zk_ys.getD y ⟨"", "", ""⟩
def zk_bs : List ByteArray := [⟨#[]⟩, prog_2_method_1_code, prog_2_method_2_code, prog_2_method_3_code, prog_2_method_4_code, prog_2_method_5_code, prog_2_method_6_code, prog_2_method_7_code, prog_2_method_8_code, prog_2_method_9_code, prog_3_method_1_code, prog_3_method_2_code, prog_3_method_3_code, prog_3_method_4_code, prog_3_method_5_code, prog_4_method_1_code, prog_4_method_2_code, prog_4_method_3_code, prog_4_method_4_code, prog_4_method_5_code, prog_4_method_6_code, prog_4_method_7_code, prog_4_method_8_code, prog_4_method_9_code, prog_4_method_10_code, prog_4_method_11_code, prog_4_method_12_code, prog_4_method_13_code, prog_5_method_1_code, prog_5_method_2_code, prog_5_method_3_code, prog_5_method_4_code, prog_5_method_5_code, prog_5_method_6_code, prog_5_method_7_code, prog_5_method_8_code, prog_5_method_9_code, prog_6_method_1_code, prog_6_method_2_code, prog_6_method_3_code, prog_6_method_4_code, prog_6_method_5_code, prog_6_method_6_code, prog_6_method_7_code, prog_6_method_8_code, prog_6_method_9_code, prog_6_method_10_code, prog_6_method_11_code, prog_7_method_1_code, prog_7_method_2_code, prog_7_method_3_code, prog_8_method_1_code, prog_8_method_2_code, prog_8_method_3_code, prog_8_method_4_code, prog_8_method_5_code, prog_8_method_6_code, prog_8_method_7_code, prog_9_method_1_code, prog_9_method_2_code, prog_9_method_3_code, prog_9_method_4_code, prog_9_method_5_code, prog_9_method_6_code, prog_9_method_7_code, prog_9_method_8_code, prog_9_method_9_code, prog_9_method_10_code, prog_9_method_11_code, prog_9_method_12_code, prog_9_method_13_code, prog_9_method_14_code, prog_9_method_15_code, prog_9_method_16_code, prog_9_method_17_code, prog_9_method_18_code, prog_9_method_19_code, prog_10_method_1_code, prog_10_method_2_code, prog_10_method_3_code, prog_10_method_4_code, prog_11_method_1_code, prog_11_method_2_code, prog_11_method_3_code, prog_11_method_4_code, prog_11_method_5_code, prog_11_method_6_code, prog_11_method_7_code, prog_11_method_8_code, prog_11_method_9_code, prog_12_method_1_code, prog_12_method_2_code, prog_12_method_3_code, prog_12_method_4_code, prog_12_method_5_code, prog_12_method_6_code, prog_12_method_7_code, prog_1_method_1_code, prog_1_method_2_code, prog_1_method_3_code, prog_1_method_4_code, prog_1_method_5_code, prog_1_method_6_code, prog_1_method_7_code, prog_1_method_8_code, prog_1_method_9_code, prog_1_method_10_code, prog_1_method_11_code, prog_1_method_12_code, prog_1_method_13_code, prog_1_method_14_code, prog_1_method_15_code, prog_1_method_16_code, prog_1_method_17_code, prog_1_method_18_code, prog_1_method_19_code, prog_1_method_20_code, prog_1_method_21_code, prog_1_method_22_code, prog_1_method_23_code, prog_1_method_24_code, prog_1_method_25_code, prog_1_method_26_code, prog_1_method_27_code, prog_1_method_28_code, prog_1_method_29_code, prog_1_method_30_code, prog_1_method_31_code, prog_1_method_32_code, prog_1_method_33_code, prog_1_method_34_code, prog_1_method_35_code, prog_1_method_36_code, prog_1_method_37_code, prog_1_method_38_code, prog_1_method_39_code, prog_1_method_40_code, prog_1_method_41_code, prog_1_method_42_code, prog_1_method_43_code, prog_1_method_44_code, prog_1_method_45_code, prog_1_method_46_code, prog_1_method_47_code, prog_1_method_48_code, prog_1_method_49_code, prog_1_method_50_code, prog_1_method_51_code, prog_1_method_52_code, prog_1_method_53_code, prog_1_method_54_code, prog_1_method_55_code, prog_1_method_56_code, prog_1_method_57_code, prog_1_method_58_code, prog_1_method_59_code, prog_1_method_60_code, prog_1_method_61_code, prog_1_method_62_code, prog_1_method_63_code, prog_14_method_1_code, prog_14_method_2_code, prog_14_method_3_code, prog_14_method_4_code, prog_14_method_5_code, prog_14_method_6_code, prog_14_method_7_code, prog_14_method_8_code, prog_14_method_9_code, prog_14_method_10_code, prog_14_method_11_code, prog_14_method_12_code, prog_14_method_13_code, prog_14_method_14_code, prog_14_method_15_code, prog_14_method_16_code, prog_14_method_17_code, prog_14_method_18_code, prog_14_method_19_code, prog_14_method_20_code, prog_14_method_21_code, prog_14_method_22_code, prog_14_method_23_code, prog_14_method_24_code, prog_14_method_25_code, prog_14_method_26_code, prog_14_method_27_code, prog_14_method_28_code, prog_14_method_29_code, prog_14_method_30_code, prog_14_method_31_code, prog_14_method_32_code, prog_14_method_33_code, prog_14_method_34_code, prog_14_method_35_code, prog_14_method_36_code, prog_14_method_37_code, prog_14_method_38_code, prog_14_method_39_code, prog_14_method_40_code, prog_14_method_41_code, prog_14_method_42_code, prog_14_method_43_code, prog_14_method_44_code, prog_14_method_45_code, prog_14_method_46_code, prog_14_method_47_code, prog_14_method_48_code, prog_14_method_49_code, prog_14_method_50_code, prog_14_method_51_code, prog_14_method_52_code, prog_14_method_53_code, prog_14_method_54_code, prog_14_method_55_code, prog_14_method_56_code, prog_14_method_57_code, prog_14_method_58_code, prog_14_method_59_code, prog_14_method_60_code, prog_14_method_61_code, prog_14_method_62_code, prog_14_method_63_code, prog_14_method_64_code, prog_14_method_65_code, prog_14_method_66_code, prog_14_method_67_code, prog_14_method_68_code, prog_14_method_69_code, prog_14_method_70_code, prog_14_method_71_code, prog_14_method_72_code, prog_14_method_73_code, prog_14_method_74_code, prog_14_method_75_code, prog_14_method_76_code, prog_14_method_77_code, prog_14_method_78_code, prog_14_method_79_code, prog_14_method_80_code, prog_14_method_81_code, prog_14_method_82_code, prog_14_method_83_code, prog_14_method_84_code, prog_14_method_85_code, prog_14_method_86_code, prog_14_method_87_code, prog_14_method_88_code, prog_14_method_89_code, prog_14_method_90_code, prog_14_method_91_code, prog_14_method_92_code, prog_14_method_93_code, prog_14_method_94_code, prog_14_method_95_code, prog_14_method_96_code, prog_14_method_97_code, prog_14_method_98_code, prog_14_method_99_code, prog_14_method_100_code, prog_14_method_101_code, prog_14_method_102_code, prog_14_method_103_code, prog_14_method_104_code, prog_14_method_105_code, prog_14_method_106_code, prog_14_method_107_code, prog_14_method_108_code, prog_14_method_109_code, prog_14_method_110_code, prog_14_method_111_code, prog_14_method_112_code, prog_14_method_113_code, prog_14_method_114_code, prog_14_method_115_code, prog_14_method_116_code, prog_14_method_117_code, prog_14_method_118_code, prog_14_method_119_code, prog_14_method_120_code, prog_14_method_121_code, prog_14_method_122_code, prog_14_method_123_code, prog_14_method_124_code, prog_14_method_125_code, prog_14_method_126_code, prog_14_method_127_code, prog_23_method_54_code, prog_23_method_79_code, prog_23_method_80_code, prog_23_method_152_code, prog_23_method_154_code, prog_24_method_4_code, prog_24_method_22_code, prog_24_method_23_code, prog_21_method_50_code, prog_21_method_59_code, prog_21_method_65_code, prog_21_method_66_code, prog_21_method_69_code, prog_21_method_70_code, prog_20_method_49_code, method_3_code, code]
def zk_b (y : Nat) : ByteArray := zk_bs.getD y ⟨#[]⟩
def zk_rts : List (Option FieldType) := [none, none, some .int, some .boolean, some .boolean, none, some .boolean, some .boolean, none, some .boolean, none, some .int, some .int, none, some .int, none, some .int, some .boolean, some .boolean, some .boolean, some .boolean, some .boolean, some .boolean, some .boolean, some .boolean, some .boolean, none, some .boolean, none, none, none, some .boolean, some (.object "SaddlerKnows$Stand"), none, some .boolean, none, some .int, none, none, some .int, some .int, some .int, some .int, some .int, some .int, some .int, some .int, some .int, none, none, none, none, some .boolean, none, some .boolean, some .int, some .int, some .int, none, none, none, some .boolean, some .boolean, none, none, none, some .int, some .int, some .int, some .int, some .boolean, some .int, some .int, some .int, some .int, some .int, some .int, none, none, none, some .int, none, some .int, none, some .int, none, some .boolean, some .int, some .int, some .boolean, none, none, some .int, some .boolean, some .boolean, some .int, some .boolean, none, some .int, some .boolean, some .int, some .int, some .int, some .int, some .int, some .int, some .int, some .boolean, some .int, some .int, some .int, some .int, some .int, some .int, some .int, some .int, some .int, some .int, some .int, some .boolean, some .int, some .int, some .int, some .int, some .int, some .int, some .int, some .int, some .int, some .int, some .int, some .int, some .int, some .int, some .int, some .int, some .int, some .int, some .int, none, none, some .int, some .int, some .boolean, some .boolean, some .boolean, some .boolean, some .boolean, some .int, some .int, some .int, some .int, some .int, some .int, some .int, some .int, some .int, none, none, some .boolean, some .boolean, some .boolean, none, some .int, some .int, some .int, some .boolean, some .int, some .int, none, some .boolean, none, some .int, none, none, some .int, none, none, none, some .boolean, none, none, none, none, none, none, none, some .int, some .int, some .int, some .int, some .int, some .int, some .int, some .int, some .int, some .int, none, some .boolean, some .int, some .int, none, some .int, some .int, some .boolean, some .boolean, some .int, some .int, some .boolean, some .boolean, some .int, some .int, some .int, some .int, some .int, some .int, some .int, some .int, none, none, none, none, some .int, some .int, some .int, some .int, some .boolean, none, some .boolean, some .boolean, some .int, some .int, some .boolean, some .int, some .int, some .int, some .int, some .int, some .int, some .boolean, some .int, none, some .int, some .int, some .int, some .int, some .int, some .int, some .int, some .int, none, none, some .int, some .int, some .int, none, none, some .int, none, some .int, some .int, none, some .int, some .int, none, some .boolean, some .boolean, some .int, some .int, some .int, some .int, some .boolean, some .int, some .int, some .int, some .int, some .int, some .int, some .int, some .int, some .int, some .int, some .int, some .int, some .int, some .int, some .int, some .int, some .int, some .int, some .byte, some .boolean, some .boolean, some .int, some .int, some .int, some .int, some .int, some .long, some .int, some .long, some .int, some .int, some .boolean]
def zk_rt (y : Nat) : Option FieldType := zk_rts.getD y none
def zk_os : List Nat := [0, 0, 0, 0, 0, 0, 0, 0, 0, 0, 1, 1, 1, 1, 1, 2, 2, 2, 2, 2, 2, 2, 2, 2, 2, 2, 2, 2, 3, 3, 3, 3, 3, 3, 3, 3, 3, 4, 4, 4, 4, 4, 4, 4, 4, 4, 4, 4, 5, 5, 5, 6, 6, 6, 6, 6, 6, 6, 7, 7, 7, 7, 7, 7, 7, 7, 7, 7, 7, 7, 7, 7, 7, 7, 7, 7, 7, 8, 8, 8, 8, 9, 9, 9, 9, 9, 9, 9, 9, 9, 10, 10, 10, 10, 10, 10, 10, 11, 11, 11, 11, 11, 11, 11, 11, 11, 11, 11, 11, 11, 11, 11, 11, 11, 11, 11, 11, 11, 11, 11, 11, 11, 11, 11, 11, 11, 11, 11, 11, 11, 11, 11, 11, 11, 11, 11, 11, 11, 11, 11, 11, 11, 11, 11, 11, 11, 11, 11, 11, 11, 11, 11, 11, 11, 11, 11, 11, 11, 11, 11, 12, 12, 12, 12, 12, 12, 12, 12, 12, 12, 12, 12, 12, 12, 12, 12, 12, 12, 12, 12, 12, 12, 12, 12, 12, 12, 12, 12, 12, 12, 12, 12, 12, 12, 12, 12, 12, 12, 12, 12, 12, 12, 12, 12, 12, 12, 12, 12, 12, 12, 12, 12, 12, 12, 12, 12, 12, 12, 12, 12, 12, 12, 12, 12, 12, 12, 12, 12, 12, 12, 12, 12, 12, 12, 12, 12, 12, 12, 12, 12, 12, 12, 12, 12, 12, 12, 12, 12, 12, 12, 12, 12, 12, 12, 12, 12, 12, 12, 12, 12, 12, 12, 12, 12, 12, 12, 12, 12, 12, 12, 12, 12, 12, 12, 12, 12, 12, 12, 12, 12, 12, 12, 12, 12, 12, 12, 12, 13, 13, 13, 13, 13, 14, 14, 14, 15, 15, 15, 15, 15, 15, 16, 17, 17]
def zk_o (y : Nat) : Nat := zk_os.getD y 0
def zk_c (c : Nat) : String := zk_cn.getD c ""
def zk_txl : List u_T := [TX0, TX1, TX2, TX3, TX4, TX5, TX6, TX7, TX8, TX9, TX10, TX11, TX12, fun k => if k = 0 then ("java/lang/String", "value", "[B", true) else ("java/lang/String", "coder", "B", true)]
def zk_tx (c : Nat) : u_T := zk_txl.getD c (fun _ => ("", "", "", false))
def zk_nfl : List Nat := [4, 3, 3, 7, 4, 5, 10, 6, 6, 3, 10, 13, 51]
def zk_nf (c : Nat) : Nat := zk_nfl.getD c 0
def zt_F : List (Nat × Nat × Nat × Nat) := [
  (11, 99, 9, 0), (9, 15, 9, 0), (2, 23, 9, 1), (0, 41, 9, 1), (9, 23, 9, 1), (9, 9, 9, 2), (10, 30, 10, 0), (0, 87, 10, 0), (11, 157, 10, 0), (4, 103, 10, 0), (10, 34, 10, 1), (7, 49, 10, 1),
  (0, 90, 10, 1), (0, 26, 10, 2), (5, 30, 10, 2), (10, 37, 10, 2), (11, 132, 10, 2), (4, 100, 10, 2), (7, 24, 10, 3), (0, 30, 10, 3), (10, 40, 10, 3), (11, 224, 10, 3), (10, 9, 10, 4), (4, 38, 10, 4),
  (0, 98, 10, 4), (11, 170, 10, 4), (10, 15, 10, 5), (4, 28, 10, 5), (0, 105, 10, 5), (11, 177, 10, 5), (10, 18, 10, 6), (4, 47, 10, 6), (0, 108, 10, 6), (11, 180, 10, 6), (10, 21, 10, 7), (7, 30, 10, 7),
  (0, 116, 10, 7), (10, 24, 10, 8), (7, 35, 10, 8), (6, 74, 10, 8), (0, 119, 10, 8), (10, 27, 10, 9), (7, 36, 10, 9), (0, 122, 10, 9), (0, 12, 0, 0), (11, 117, 0, 0), (0, 22, 0, 1), (0, 18, 0, 2),
  (0, 33, 0, 3), (2, 9, 2, 0), (11, 140, 2, 0), (2, 19, 2, 1), (11, 143, 2, 1), (2, 15, 2, 2), (4, 21, 4, 0), (4, 11, 4, 1), (4, 25, 4, 2), (11, 135, 4, 2), (4, 17, 4, 3), (11, 208, 4, 3),
  (7, 9, 7, 0), (4, 73, 7, 0), (11, 196, 7, 0), (7, 15, 7, 1), (4, 76, 7, 1), (11, 199, 7, 1), (7, 18, 7, 2), (6, 58, 7, 2), (8, 57, 7, 2), (4, 79, 7, 2), (11, 202, 7, 2), (7, 21, 7, 3),
  (6, 71, 7, 3), (4, 61, 7, 3), (11, 183, 7, 3), (7, 52, 7, 4), (11, 160, 7, 4), (7, 53, 7, 5), (4, 66, 7, 5), (3, 58, 7, 5), (11, 217, 7, 5), (3, 11, 3, 0), (3, 15, 3, 1), (3, 21, 3, 2),
  (3, 25, 3, 3), (3, 33, 3, 4), (3, 37, 3, 5), (3, 29, 3, 6), (11, 230, 3, 6), (6, 35, 6, 0), (6, 39, 6, 1), (6, 12, 6, 2), (6, 18, 6, 3), (6, 22, 6, 4), (6, 25, 6, 5), (6, 28, 6, 6),
  (6, 32, 6, 7), (6, 51, 6, 8), (6, 43, 6, 9), (11, 129, 6, 9), (8, 18, 8, 0), (8, 14, 8, 1), (8, 26, 8, 2), (8, 30, 8, 3), (8, 37, 8, 4), (11, 306, 8, 4), (8, 40, 8, 5), (11, 309, 8, 5),
  (5, 15, 5, 0), (5, 19, 5, 1), (5, 9, 5, 2), (5, 23, 5, 3), (11, 317, 5, 3), (5, 27, 5, 4), (11, 320, 5, 4), (11, 10, 11, 0), (11, 21, 11, 1), (11, 28, 11, 2), (11, 35, 11, 3), (11, 44, 11, 4),
  (11, 51, 11, 5), (11, 58, 11, 6), (11, 67, 11, 7), (11, 76, 11, 8), (11, 83, 11, 9), (11, 87, 11, 10), (11, 91, 11, 11), (11, 274, 11, 12), (1, 24, 1, 0), (1, 11, 1, 1), (1, 31, 1, 2), (12, 105, 12, 0),
  (12, 9, 12, 1), (12, 112, 12, 2), (12, 115, 12, 3), (12, 122, 12, 4), (12, 128, 12, 5), (12, 13, 12, 6), (12, 16, 12, 7), (12, 19, 12, 8), (12, 22, 12, 9), (12, 25, 12, 10), (12, 28, 12, 11), (12, 31, 12, 12),
  (12, 279, 12, 13), (12, 125, 12, 14), (12, 34, 12, 15), (12, 37, 12, 16), (12, 40, 12, 17), (12, 43, 12, 18), (12, 46, 12, 19), (12, 237, 12, 20), (12, 240, 12, 21), (12, 49, 12, 22), (12, 52, 12, 23), (12, 55, 12, 24),
  (12, 260, 12, 25), (12, 257, 12, 26), (12, 58, 12, 27), (12, 61, 12, 28), (12, 64, 12, 29), (12, 68, 12, 30), (12, 71, 12, 31), (12, 317, 12, 32), (12, 74, 12, 33), (12, 269, 12, 34), (12, 373, 12, 35), (12, 77, 12, 36),
  (12, 402, 12, 37), (12, 408, 12, 38), (12, 80, 12, 39), (12, 422, 12, 40), (12, 425, 12, 41), (12, 83, 12, 42), (12, 86, 12, 43), (12, 89, 12, 44), (12, 92, 12, 45), (12, 266, 12, 46), (12, 96, 12, 47), (12, 99, 12, 48),
  (12, 102, 12, 49), (12, 272, 12, 50), (13, 9, 13, 0), (13, 15, 13, 1)]
def zt_M0 : List (Nat × Nat × Nat × Nat) := [
  (17, 15, 97, 2), (11, 1, 0, 2), (9, 3, 0, 2), (11, 18, 1, 2), (0, 3, 0, 2), (10, 3, 0, 2), (11, 27, 15, 2), (2, 3, 0, 2), (11, 41, 37, 2), (4, 3, 0, 2), (11, 50, 58, 2), (7, 3, 0, 2),
  (11, 57, 28, 2), (3, 3, 0, 2), (3, 20, 58, 2), (11, 64, 51, 2), (6, 3, 0, 2), (6, 11, 58, 2), (11, 73, 77, 2), (8, 5, 0, 2), (8, 13, 58, 2), (11, 82, 48, 2), (5, 3, 0, 2), (17, 19, 98, 1),
  (11, 95, 82, 0), (11, 102, 83, 1), (17, 24, 99, 1), (17, 29, 100, 1), (11, 106, 2, 1), (0, 37, 5, 1), (0, 46, 3, 1), (0, 50, 84, 1), (0, 61, 4, 1), (0, 70, 8, 1), (0, 125, 85, 1), (0, 79, 9, 1),
  (0, 128, 287, 1), (13, 335, 290, 1), (0, 133, 288, 1), (13, 633, 289, 1), (13, 492, 291, 1), (13, 505, 287, 1), (13, 637, 293, 0), (14, 88, 292, 0), (14, 92, 297, 0), (14, 38, 299, 0), (14, 95, 294, 0), (0, 141, 87, 1),
  (9, 26, 84, 1), (9, 30, 89, 0), (9, 34, 88, 1), (0, 64, 6, 1), (0, 67, 7, 1), (0, 54, 93, 1), (10, 51, 94, 1), (0, 57, 86, 1), (11, 110, 16, 1), (2, 28, 17, 1), (2, 36, 86, 1), (2, 32, 84, 1),
  (2, 40, 19, 1), (2, 62, 20, 1), (2, 68, 21, 1), (2, 71, 22, 1), (2, 65, 85, 1), (2, 54, 26, 1), (2, 47, 23, 1), (2, 75, 24, 1), (2, 78, 25, 1), (2, 83, 288, 1), (2, 89, 87, 1), (2, 51, 27, 0),
  (2, 44, 18, 1), (17, 34, 101, 1), (11, 111, 102, 1), (11, 120, 91, 1), (11, 123, 59, 1), (7, 37, 63, 1), (7, 41, 64, 1), (11, 126, 29, 1), (11, 114, 103, 1), (11, 146, 10, 2), (1, 3, 0, 2), (1, 15, 299, 0),
  (1, 21, 297, 0), (11, 149, 38, 1), (17, 38, 104, 1), (11, 153, 143, 1), (17, 52, 106, 1), (11, 193, 61, 1), (11, 173, 156, 0), (11, 205, 41, 1), (4, 82, 40, 1), (4, 69, 39, 1), (4, 41, 296, 0), (4, 50, 11, 1),
  (1, 35, 13, 1), (1, 39, 14, 1), (1, 47, 12, 0), (1, 55, 300, 0), (1, 58, 298, 0), (4, 54, 299, 0), (4, 58, 297, 0), (17, 56, 107, 1), (17, 108, 108, 1), (11, 163, 144, 1), (11, 211, 92, 1), (17, 104, 109, 1),
  (11, 214, 142, 1), (11, 391, 299, 0), (11, 220, 36, 1), (3, 61, 295, 0), (17, 181, 110, 1), (11, 227, 69, 1), (7, 68, 68, 1), (7, 60, 61, 1), (7, 72, 301, 0), (17, 60, 111, 1), (11, 232, 138, 1), (11, 260, 157, 0),
  (11, 235, 30, 1), (3, 40, 32, 1), (3, 44, 60, 1), (3, 48, 299, 0), (11, 239, 139, 1), (11, 383, 47, 1), (4, 93, 70, 1), (7, 64, 62, 1), (4, 110, 44, 1), (4, 90, 42, 1), (4, 86, 62, 1), (4, 97, 92, 1),
  (4, 113, 65, 1), (11, 387, 35, 1), (3, 68, 73, 1), (3, 72, 69, 1), (17, 64, 112, 1), (11, 242, 147, 0), (11, 245, 66, 1), (11, 248, 67, 1), (11, 251, 63, 1), (17, 69, 113, 1), (11, 255, 296, 0), (17, 73, 114, 1),
  (11, 264, 64, 1), (17, 77, 115, 1), (11, 267, 297, 0), (17, 81, 116, 1), (17, 96, 117, 1), (17, 100, 118, 1), (11, 270, 31, 1), (17, 85, 119, 1), (17, 91, 120, 1), (11, 278, 140, 1), (11, 394, 141, 1), (17, 173, 121, 1),
  (11, 281, 33, 1), (17, 177, 122, 1), (11, 284, 34, 1), (17, 112, 123, 1), (11, 287, 145, 1), (11, 291, 40, 1), (17, 116, 124, 1), (11, 295, 45, 1), (17, 120, 125, 1), (11, 299, 46, 1), (17, 124, 126, 1), (11, 302, 78, 1),
  (8, 22, 60, 1), (8, 33, 70, 1), (8, 43, 79, 1), (8, 47, 80, 1), (8, 65, 62, 1), (8, 51, 46, 1), (8, 69, 296, 0), (17, 128, 127, 1), (11, 312, 76, 1), (7, 81, 74, 1), (17, 132, 128, 1), (17, 136, 129, 1),
  (11, 315, 49, 1), (5, 35, 45, 1), (5, 41, 40, 1), (5, 49, 50, 1), (17, 140, 130, 1), (11, 323, 52, 1), (17, 145, 131, 1), (11, 327, 146, 1), (11, 330, 53, 1), (6, 54, 59, 1), (6, 61, 47, 1), (6, 67, 54, 1),
  (11, 334, 55, 1), (6, 83, 301, 0), (17, 149, 132, 1), (11, 337, 56, 1), (6, 93, 57, 1), (6, 96, 296, 0), (17, 153, 133, 1), (11, 340, 95, 1), (17, 157, 134, 1), (11, 344, 96, 1), (10, 55, 95, 1), (17, 161, 135, 1),
  (11, 348, 70, 1), (11, 352, 148, 1), (11, 403, 44, 1), (17, 165, 136, 1), (11, 356, 73, 1), (17, 169, 137, 1), (11, 359, 149, 1), (11, 406, 150, 1), (11, 186, 43, 1), (11, 409, 71, 1), (11, 362, 151, 1), (11, 365, 152, 1),
  (11, 368, 72, 1), (11, 371, 153, 1), (11, 374, 68, 1), (11, 377, 154, 1), (11, 190, 75, 1), (11, 380, 155, 1), (17, 42, 302, 0), (17, 7, 105, 1), (17, 18, 162, 2), (12, 3, 0, 2), (17, 48, 163, 1), (17, 23, 165, 1),
  (12, 108, 164, 0), (17, 28, 166, 1), (17, 33, 200, 1), (12, 251, 199, 1), (12, 220, 196, 0), (12, 134, 168, 1), (12, 118, 167, 1), (12, 243, 197, 1), (12, 224, 194, 0), (12, 227, 161, 0), (12, 231, 195, 0), (12, 234, 193, 1),
  (12, 137, 170, 0), (12, 131, 169, 1), (12, 247, 198, 1), (12, 254, 188, 1), (12, 186, 186, 1), (12, 189, 185, 1), (12, 174, 184, 1), (12, 171, 181, 1), (12, 152, 173, 1), (12, 144, 171, 1), (12, 158, 174, 1), (12, 155, 178, 1),
  (12, 165, 177, 1), (12, 162, 176, 1), (12, 141, 175, 1), (12, 148, 172, 0), (12, 177, 180, 1), (12, 168, 179, 0), (12, 180, 182, 1), (12, 183, 183, 1), (12, 192, 187, 1), (17, 37, 203, 1), (12, 276, 202, 1), (12, 263, 201, 1),
  (17, 41, 223, 1), (12, 282, 160, 0), (17, 47, 224, 1), (12, 286, 204, 1), (12, 320, 213, 1), (12, 311, 209, 1), (12, 292, 208, 1), (12, 289, 207, 1), (12, 314, 212, 1), (12, 308, 211, 1), (12, 295, 206, 1), (12, 298, 296, 0),
  (12, 301, 192, 1), (12, 216, 191, 1), (12, 212, 190, 0), (12, 208, 189, 0), (12, 199, 300, 0), (12, 205, 298, 0), (12, 304, 299, 0), (12, 306, 297, 0), (12, 349, 222, 1), (17, 55, 225, 1), (17, 59, 226, 1), (17, 63, 230, 1),
  (12, 352, 229, 1), (12, 355, 228, 1), (12, 358, 227, 1), (12, 361, 221, 1), (12, 343, 220, 1), (12, 323, 214, 1), (12, 326, 219, 1), (12, 329, 210, 1), (12, 332, 218, 1), (12, 335, 216, 1), (12, 338, 301, 0), (12, 346, 217, 1),
  (17, 68, 234, 1), (12, 367, 232, 1), (12, 364, 231, 1), (12, 370, 233, 1), (17, 72, 235, 1), (17, 76, 236, 1), (17, 80, 237, 1), (17, 84, 238, 1), (17, 88, 239, 1), (17, 95, 242, 1), (12, 384, 241, 1), (12, 381, 240, 1),
  (17, 99, 243, 1), (17, 103, 244, 1), (17, 107, 245, 1), (17, 111, 246, 1), (17, 115, 247, 1), (12, 387, 205, 1), (17, 119, 249, 1), (12, 390, 248, 1), (17, 123, 253, 1), (12, 399, 252, 1), (12, 393, 250, 1), (12, 396, 251, 1),
  (17, 127, 257, 1), (12, 415, 256, 1), (12, 411, 255, 1), (12, 405, 254, 1), (17, 131, 259, 1), (12, 419, 258, 1), (17, 135, 260, 1), (17, 139, 262, 1), (12, 428, 261, 1), (17, 144, 263, 1), (17, 148, 267, 1), (12, 434, 266, 1),
  (12, 437, 265, 1), (12, 431, 264, 1), (17, 152, 268, 1), (17, 156, 270, 1), (12, 441, 269, 1), (17, 160, 272, 1), (12, 445, 271, 1), (17, 164, 274, 1), (12, 451, 273, 1), (17, 168, 275, 1), (17, 172, 283, 1), (12, 462, 278, 1),
  (12, 465, 279, 1), (12, 456, 215, 1), (12, 469, 280, 1), (12, 472, 281, 1), (12, 475, 282, 1), (12, 478, 277, 1), (12, 459, 276, 1), (17, 176, 284, 1), (17, 180, 285, 1), (17, 184, 286, 1)]
def zt_M1 : List (Nat × Nat × Nat × Nat) := [
  (11, 9, 81, 12), (0, 11, 90, 12), (11, 34, 90, 12), (9, 19, 157, 10), (0, 101, 157, 10), (0, 137, 159, 10), (0, 83, 156, 10), (10, 47, 156, 10), (2, 58, 157, 10), (10, 43, 158, 10), (7, 31, 156, 10), (7, 45, 157, 10),
  (1, 27, 158, 10), (4, 34, 156, 10), (1, 43, 156, 10), (3, 75, 156, 10), (7, 56, 158, 10), (4, 106, 157, 10), (3, 64, 157, 10), (3, 54, 158, 10), (8, 61, 156, 10), (8, 75, 157, 10), (7, 78, 159, 10), (5, 45, 157, 10),
  (5, 53, 159, 10), (5, 57, 156, 10), (6, 47, 157, 10), (6, 79, 156, 10), (6, 89, 159, 10)]
def zt_C : List (Nat × Nat × Int) := [
  (16, 265, 1431655765), (16, 266, 858993459), (16, 267, 252645135), (11, 231, (-1000000)), (11, 351, 1000000000), (12, 440, (-1000000)), (12, 455, 1000000000)]
def zt_L : List (Nat × Nat × Int) := [
  (1, 51, (-1000000)), (1, 53, 1000000), (11, 397, 6364136223846793005), (11, 399, 1442695040888963407), (11, 401, 100), (12, 195, (-1000000)), (12, 197, 1000000), (12, 377, 6364136223846793005), (12, 379, 1442695040888963407), (12, 449, 100), (17, 89, 4294967295)]
def zt_S : List (Nat × Nat × Nat) := [
  (0, 74, 4), (0, 93, 5), (0, 111, 6), (2, 81, 7)]
def zt_G : List (Nat × Nat × Nat) := [
  (0, 76, 1), (13, 38, 0), (0, 95, 2), (0, 113, 3)]
def zt_N : List (Nat × Nat × Nat) := [
  (17, 8, 11), (11, 7, 9), (11, 16, 0), (0, 9, 10), (11, 25, 2), (11, 32, 10), (11, 39, 4), (11, 48, 7), (11, 55, 3), (3, 18, 7), (11, 62, 6), (6, 9, 7),
  (11, 71, 8), (8, 11, 7), (11, 80, 5), (11, 138, 1), (17, 16, 12)]
def zt_A : List (Nat × Nat × Nat) := [
  (4, 9, 1), (3, 18, 7)]
def zt_Yc : List Nat := [
  97, 81, 1, 90, 15, 37, 58, 28, 51, 77, 48, 98, 82, 83, 157, 99, 100, 2, 5, 3, 84, 4, 8, 85,
  9, 287, 290, 288, 289, 291, 293, 292, 297, 299, 294, 159, 156, 87, 89, 88, 6, 7, 93, 94, 86, 16, 17, 19,
  20, 21, 22, 26, 23, 24, 25, 27, 18, 101, 102, 91, 158, 59, 63, 64, 29, 103, 10, 38, 104, 143, 106, 61,
  41, 40, 39, 296, 11, 13, 14, 12, 300, 298, 107, 108, 144, 92, 109, 142, 36, 295, 110, 69, 68, 301, 111, 138,
  30, 32, 60, 139, 47, 70, 62, 44, 42, 65, 35, 73, 112, 147, 66, 67, 113, 114, 115, 116, 117, 118, 31, 119,
  120, 140, 141, 121, 33, 122, 34, 123, 145, 124, 45, 125, 46, 126, 78, 79, 80, 127, 76, 74, 128, 129, 49, 50,
  130, 52, 131, 146, 53, 54, 55, 132, 56, 57, 133, 95, 134, 96, 135, 148, 136, 137, 149, 150, 43, 71, 151, 152,
  72, 153, 154, 75, 155, 105, 162, 163, 165, 164, 166, 200, 199, 196, 168, 167, 197, 194, 161, 195, 193, 170, 169, 198,
  188, 186, 185, 184, 181, 173, 171, 174, 178, 177, 176, 175, 172, 180, 179, 182, 183, 187, 203, 202, 201, 223, 160, 224,
  204, 213, 209, 208, 207, 212, 211, 206, 192, 191, 190, 189, 222, 225, 226, 230, 229, 228, 227, 221, 220, 214, 219, 210,
  218, 216, 217, 234, 232, 231, 233, 235, 236, 237, 238, 239, 242, 241, 240, 243, 244, 245, 246, 247, 205, 249, 248, 253,
  252, 250, 251, 257, 256, 255, 254, 259, 258, 260, 262, 261, 263, 267, 266, 265, 264, 268, 270, 269, 272, 271, 274, 273,
  275, 283, 278, 279, 215, 280, 281, 282, 277, 276, 284, 285, 286]
def zt_Yst : List Nat := [
  82, 157, 293, 292, 297, 299, 294, 159, 156, 89, 27, 158, 296, 12, 300, 298, 295, 301, 147, 164, 196, 194, 161, 195,
  170, 172, 179, 160, 190, 189]
def zt_Yin : List Nat := [
  97, 81, 1, 90, 15, 37, 58, 28, 51, 77, 48, 98, 83, 99, 100, 2, 5, 3, 84, 4, 8, 85, 9, 287,
  290, 288, 289, 291, 87, 88, 6, 7, 93, 94, 86, 16, 17, 19, 20, 21, 22, 26, 23, 24, 25, 18, 101, 102,
  91, 59, 63, 64, 29, 103, 10, 38, 104, 143, 106, 61, 41, 40, 39, 11, 13, 14, 107, 108, 144, 92, 109, 142,
  36, 110, 69, 68, 111, 138, 30, 32, 60, 139, 47, 70, 62, 44, 42, 65, 35, 73, 112, 66, 67, 113, 114, 115,
  116, 117, 118, 31, 119, 120, 140, 141, 121, 33, 122, 34, 123, 145, 124, 45, 125, 46, 126, 78, 79, 80, 127, 76,
  74, 128, 129, 49, 50, 130, 52, 131, 146, 53, 54, 55, 132, 56, 57, 133, 95, 134, 96, 135, 148, 136, 137, 149,
  150, 43, 71, 151, 152, 72, 153, 154, 75, 155, 105, 162, 163, 165, 166, 200, 199, 168, 167, 197, 193, 169, 198, 188,
  186, 185, 184, 181, 173, 171, 174, 178, 177, 176, 175, 180, 182, 183, 187, 203, 202, 201, 223, 224, 204, 213, 209, 208,
  207, 212, 211, 206, 192, 191, 222, 225, 226, 230, 229, 228, 227, 221, 220, 214, 219, 210, 218, 216, 217, 234, 232, 231,
  233, 235, 236, 237, 238, 239, 242, 241, 240, 243, 244, 245, 246, 247, 205, 249, 248, 253, 252, 250, 251, 257, 256, 255,
  254, 259, 258, 260, 262, 261, 263, 267, 266, 265, 264, 268, 270, 269, 272, 271, 274, 273, 275, 283, 278, 279, 215, 280,
  281, 282, 277, 276, 284, 285, 286]
def zt_Yse : List Nat := [
  5, 3, 4, 8, 9, 88, 6, 7, 94, 17, 19, 20, 21, 22, 26, 23, 24, 25, 18, 102, 103, 143, 39, 13,
  14, 144, 142, 138, 32, 139, 42, 140, 141, 145, 79, 80, 74, 50, 146, 54, 57, 148, 149, 150, 151, 152, 153, 154,
  155, 199, 168, 167, 197, 193, 169, 198, 188, 186, 185, 184, 181, 173, 171, 174, 178, 177, 176, 175, 180, 182, 183, 187,
  202, 201, 204, 213, 209, 208, 207, 212, 211, 206, 192, 191, 222, 229, 228, 227, 221, 220, 214, 219, 210, 218, 216, 217,
  232, 231, 233, 241, 240, 205, 248, 252, 250, 251, 256, 255, 254, 258, 261, 266, 265, 264, 269, 271, 273, 278, 279, 215,
  280, 281, 282, 277, 276, 98, 83, 99, 100, 2, 84, 85, 287, 290, 288, 289, 291, 87, 93, 86, 16, 101, 91, 59,
  63, 64, 29, 38, 104, 106, 61, 41, 40, 11, 107, 108, 92, 109, 36, 110, 69, 68, 111, 30, 60, 47, 70, 62,
  44, 65, 35, 73, 112, 66, 67, 113, 114, 115, 116, 117, 118, 31, 119, 120, 121, 33, 122, 34, 123, 124, 45, 125,
  46, 126, 78, 127, 76, 128, 129, 49, 130, 52, 131, 53, 55, 132, 56, 133, 95, 134, 96, 135, 136, 137, 43, 71,
  72, 75, 105, 163, 165, 166, 200, 203, 223, 224, 225, 226, 230, 234, 235, 236, 237, 238, 239, 242, 243, 244, 245, 246,
  247, 249, 253, 257, 259, 260, 262, 263, 267, 268, 270, 272, 274, 275, 283, 284, 285, 286]
def zt_Ci : List Nat := [11, 9, 0, 10, 2, 4, 7, 3, 6, 8, 5, 12, 13, 14, 15, 1, 16]
def zt_In : List Nat := [11, 9, 0, 10, 2, 4, 7, 3, 6, 8, 5, 1, 12]
def zk_subl : List Jvm.Cond → List Jvm.Cond → Bool
  | [], _ => true
  | _ :: _, [] => false
  | a :: l, b :: r => if a = b then zk_subl l r else zk_subl (a :: l) r
theorem zk_subl_m : ∀ (l r : List Jvm.Cond), zk_subl l r = true → ∀ w ∈ l, w ∈ r
  | [], _, _, w, hw => by cases hw
  | _ :: _, [], h, _, _ => by cases h
  | a :: l, b :: r, h, w, hw => by
    unfold zk_subl at h
    by_cases e : a = b
    · rw [if_pos e] at h
      rcases List.mem_cons.mp hw with rfl | hw
      · rw [e]; exact List.mem_cons_self
      · exact List.mem_cons_of_mem _ (zk_subl_m l r h w hw)
    · rw [if_neg e] at h
      exact List.mem_cons_of_mem _ (zk_subl_m (a :: l) r h w hw)
/-- is the resolved instruction what the raw one is? -/
def zk_chk (o pc : Nat) (ri raw : Instr) (len : Nat) : Bool := match ri with
  | .iload n => match raw with
    | .iload m => Nat.beq m n && Nat.beq len 2
    | .iload_n j => Nat.beq j.val n && Nat.beq len 1
    | _ => false
  | .lload n => match raw with
    | .lload m => Nat.beq m n && Nat.beq len 2
    | .lload_n j => Nat.beq j.val n && Nat.beq len 1
    | _ => false
  | .aload n => match raw with
    | .aload m => Nat.beq m n && Nat.beq len 2
    | .aload_n j => Nat.beq j.val n && Nat.beq len 1
    | _ => false
  | .istore n => match raw with
    | .istore m => Nat.beq m n && Nat.beq len 2
    | .istore_n j => Nat.beq j.val n && Nat.beq len 1
    | _ => false
  | .lstore n => match raw with
    | .lstore m => Nat.beq m n && Nat.beq len 2
    | .lstore_n j => Nat.beq j.val n && Nat.beq len 1
    | _ => false
  | .astore n => match raw with
    | .astore m => Nat.beq m n && Nat.beq len 2
    | .astore_n j => Nat.beq j.val n && Nat.beq len 1
    | _ => false
  | .iconst v => match raw with
    | .iconst w => decide (w = v) && Nat.beq len 1
    | .bipush w => decide ((Int8.ofInt w).toInt32 = Int32.ofInt v) && Nat.beq len 2
    | .sipush w => decide ((Int16.ofInt w).toInt32 = Int32.ofInt v) && Nat.beq len 3
    | .ldc i => zt_C.elem (o, i, v) && Nat.beq len 2
    | .ldc_w i => zt_C.elem (o, i, v) && Nat.beq len 3
    | _ => false
  | .sipush v => match raw with
    | .lconst j => decide (Int64.ofNat j.val = Int64.ofInt v) && Nat.beq len 1
    | .ldc2_w i => zt_L.elem (o, i, v) && Nat.beq len 3
    | _ => false
  | .ldc e => match raw with
    | .ldc i => zt_S.elem (o, i, e) && Nat.beq len 2
    | _ => false
  | .getstatic e => match raw with
    | .getstatic i => zt_G.elem (o, i, e) && Nat.beq len 3
    | _ => false
  | .getfield e => match raw with
    | .getfield i => zt_F.elem (o, i, e / 1000, e / 10 % 100) && Nat.beq len 3
    | _ => false
  | .putfield e => match raw with
    | .putfield i => zt_F.elem (o, i, e / 1000, e / 10 % 100) && Nat.beq len 3
    | _ => false
  | .new c => match raw with
    | .new i => zt_N.elem (o, i, c) && Nat.beq len 3
    | _ => false
  | .anewarray c => match raw with
    | .anewarray i => zt_A.elem (o, i, c) && Nat.beq len 3
    | _ => false
  | .newarray t => match raw with
    | .newarray t' => decide (t' = t) && Nat.beq len 2
    | _ => false
  | .invokestatic e => match raw with
    | .invokestatic i => (zt_M0.elem (o, i, e % 1000, 0) || zt_M1.elem (o, i, e % 1000, 10)) && Nat.beq len 3
    | _ => false
  | .invokevirtual e => match raw with
    | .invokevirtual i => (zt_M0.elem (o, i, e % 1000, 1) || zt_M1.elem (o, i, e % 1000, 11)) && Nat.beq len 3
    | _ => false
  | .invokespecial e => match raw with
    | .invokespecial i => (zt_M0.elem (o, i, e % 1000, 2) || zt_M1.elem (o, i, e % 1000, 12)) && Nat.beq len 3
    | _ => false
  | .ifCond c t => match raw with
    | .ifCond c' off => decide (c' = c) && decide ((pc : Int) + off = t) && decide (0 ≤ t) && Nat.beq len 3
    | _ => false
  | .if_icmp c t => match raw with
    | .if_icmp c' off => decide (c' = c) && decide ((pc : Int) + off = t) && decide (0 ≤ t) && Nat.beq len 3
    | _ => false
  | .ifnull t => match raw with
    | .ifnull off => decide ((pc : Int) + off = t) && decide (0 ≤ t) && Nat.beq len 3
    | _ => false
  | .ifnonnull t => match raw with
    | .ifnonnull off => decide ((pc : Int) + off = t) && decide (0 ≤ t) && Nat.beq len 3
    | _ => false
  | .goto t => match raw with
    | .goto off => decide ((pc : Int) + off = t) && decide (0 ≤ t) && Nat.beq len 3
    | _ => false
  | .lookupswitch d ps => match raw with
    | .lookupswitch d' ps' => decide (0 ≤ d) && decide ((pc : Int) + d' = d) && decide (ps.toList = ps'.toList.map (fun q => (q.1, (pc : Int) + q.2))) && ps.toList.all (fun q => decide (0 ≤ q.2) && decide ((Int32.ofInt q.1).toInt = q.1)) && (ps'.toList.zip (ps'.toList.drop 1)).all (fun q => decide (q.1.1 < q.2.1))
    | .tableswitch d' lo hi offs => decide (0 ≤ d) && decide ((pc : Int) + d' = d) && decide (ps.toList = offs.toList.zipIdx.map (fun q => (lo + (q.2 : Int), (pc : Int) + q.1))) && ps.toList.all (fun q => decide (0 ≤ q.2) && decide ((Int32.ofInt q.1).toInt = q.1)) && decide (hi = lo + (offs.size : Int) - 1)
    | _ => false
  | .iinc n v => match raw with
    | .iinc n' v' => Nat.beq n' n && decide (v' = v) && Nat.beq len 3
    | _ => false
  | .ret k => match raw with
    | .ireturn => (Nat.beq k 1 || Nat.beq k 2) && Nat.beq len 1
    | _ => false
  | .athrow => match raw with
    | .new i => Nat.beq len 3
    | _ => false
  | i => decide (raw = i) && Nat.beq len 1
def zk_ck (y : Nat) (e : Nat × Nat × Instr) : Bool := match decode (zk_b y) e.1 with
  | .ok (raw, len) => Nat.beq e.2.1 (e.1 + len) && zk_chk (zk_o y) e.1 e.2.2 raw len
  | .error _ => false
def zk_cky (y : Nat) : Bool := (zk_rcd y).all (zk_ck y)

set_option maxRecDepth 100000 in
theorem zk_ok0 : (List.range 20).all (fun i => zk_cky (0 + i)) = true := by decide +kernel
set_option maxRecDepth 100000 in
theorem zk_ok20 : (List.range 20).all (fun i => zk_cky (20 + i)) = true := by decide +kernel
set_option maxRecDepth 100000 in
theorem zk_ok40 : (List.range 20).all (fun i => zk_cky (40 + i)) = true := by decide +kernel
set_option maxRecDepth 100000 in
theorem zk_ok60 : (List.range 20).all (fun i => zk_cky (60 + i)) = true := by decide +kernel
set_option maxRecDepth 100000 in
theorem zk_ok80 : (List.range 20).all (fun i => zk_cky (80 + i)) = true := by decide +kernel
set_option maxRecDepth 100000 in
theorem zk_ok100 : (List.range 20).all (fun i => zk_cky (100 + i)) = true := by decide +kernel
set_option maxRecDepth 100000 in
theorem zk_ok120 : (List.range 20).all (fun i => zk_cky (120 + i)) = true := by decide +kernel
set_option maxRecDepth 100000 in
theorem zk_ok140 : (List.range 20).all (fun i => zk_cky (140 + i)) = true := by decide +kernel
set_option maxRecDepth 100000 in
theorem zk_ok160 : (List.range 20).all (fun i => zk_cky (160 + i)) = true := by decide +kernel
set_option maxRecDepth 100000 in
theorem zk_ok180 : (List.range 20).all (fun i => zk_cky (180 + i)) = true := by decide +kernel
set_option maxRecDepth 100000 in
theorem zk_ok200 : (List.range 20).all (fun i => zk_cky (200 + i)) = true := by decide +kernel
set_option maxRecDepth 100000 in
theorem zk_ok220 : (List.range 20).all (fun i => zk_cky (220 + i)) = true := by decide +kernel
set_option maxRecDepth 100000 in
theorem zk_ok240 : (List.range 20).all (fun i => zk_cky (240 + i)) = true := by decide +kernel
set_option maxRecDepth 100000 in
theorem zk_ok260 : (List.range 20).all (fun i => zk_cky (260 + i)) = true := by decide +kernel
set_option maxRecDepth 100000 in
theorem zk_ok280 : (List.range 20).all (fun i => zk_cky (280 + i)) = true := by decide +kernel
set_option maxRecDepth 100000 in
theorem zk_ok300 : (List.range 3).all (fun i => zk_cky (300 + i)) = true := by decide +kernel
